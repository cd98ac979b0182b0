theorem q_lay_v {wd : q_Lin → Nat} {ad : Nat → Nat} {v : q_Lin → Nat → Int64} {z : Nat} : ∀ (Ls : List q_Lin) (la : Nat → Int32) (wo : Nat → Int64) y, q_lay wd ad v Ls la wo = .inr y → (∀ x ∈ Ls, ∀ w, w < wd x → ∃ u, u < 2 ^ z ∧ v x w = lN u) → (∀ i, i < 4096 → ¬ la i = 0 → ∃ u, u < 2 ^ z ∧ wo i = lN u) → ∀ i, i < 4096 → ¬ y.1 i = 0 → ∃ u, u < 2 ^ z ∧ y.2 i = lN u := by
  intro Ls
  induction Ls with
  | nil => intro la wo y h _ h0; cases h; exact h0
  | cons x r ih =>
    intro la wo y h hv h0
    rw [q_lay] at h
    split at h
    · refine ih _ _ y h (fun x hx => hv x (List.mem_cons_of_mem _ hx)) (fun i hi9 hne => ?_)
      unfold q_pL at hne
      unfold q_pW
      by_cases c : ad (q_sF x) ≤ i ∧ i < ad (q_sF x) + wd x
      · rw [if_pos c]
        exact hv x List.mem_cons_self (i - ad (q_sF x)) (by omega)
      · rw [if_neg c] at hne ⊢
        exact h0 i hi9 hne
    · cases h
theorem q_as_v {B : Nat → Int32} {l : List q_Tok} {z zt : Nat} {L : List q_Knd} {Js : List q_Ins} {la0 la : Nat → Int32} {wo0 wo : Nat → Int64} {FL : List q_Lin} {rd : Nat} (hwf : q_WF B zt l) (hz : z ≤ 32) (hcl : ∀ J ∈ Js, ∀ c ∈ J.2.2.2, c.length = z) (hla0 : ∀ v, v < 4096 → la0 v = 0) (h : q_as B l z L Js la0 wo0 = .inr (FL, rd, la, wo)) : ∀ i, i < 4096 → ¬ la i = 0 → ∃ u, u < 2 ^ z ∧ wo i = lN u := by
  have hwf4 : ∀ i, i < l.length → (q_tok l i).1 ≤ 4 := fun i hi => (hwf i _ (q_tok_s hi)).1
  unfold q_as at h
  cases hln : q_lns B l z (l.length + 2) 0 [] with
  | inl e => rw [hln] at h; cases h
  | inr G =>
    rw [hln] at h
    simp only at h
    obtain ⟨lp1, lp2⟩ := q_lns_p (B := B) (l := l) (z := z) hwf4 (l.length + 2) 0 [] G hln (fun x hx => by cases hx) List.Pairwise.nil (Nat.zero_le _)
    unfold q_as2 at h
    cases hff : q_ff (q_nfx B l (q_LT G) L Js) G (fun _ => 0) with
    | inl e => simp only [hff] at h; cases h
    | inr fo =>
      simp only [hff] at h
      cases hst : q_set l Js (q_fit B l (q_LT G) L Js) (q_nfx B l (q_LT G) L Js) G 600000 1 fo (fun _ => 0) with
      | inl e => simp only [hst] at h; cases h
      | inr y =>
        simp only [hst] at h
        cases hly : q_lay (q_wds Js y.1) y.2.1 (fun x w => lN (q_wv B l (q_LT G) L Js y.1 y.2.1 x w)) G la0 wo0 with
        | inl e => simp only [hly] at h; cases h
        | inr w =>
          simp only [hly] at h
          have h9 := Sum.inr.inj h
          have hw9 : w = (la, wo) := congrArg (fun p => p.2.2) h9
          rw [hw9] at hly
          refine q_lay_v G la0 wo0 (la, wo) hly (fun x hx k hk => ⟨_, ?_, rfl⟩) (fun i hi9 hne => absurd (hla0 i hi9) hne)
          unfold q_wv
          unfold q_wds at hk
          by_cases c1 : q_sS x = 1
          · rw [if_pos c1] at hk ⊢
            have p0 : 0 < 2 ^ z := Nat.pow_pos (by decide)
            cases hp : q_isf B l (q_LT G) L (q_jg Js (y.1 (q_sF x))) (q_sH x) (q_sE x) with
            | none => exact p0
            | some ps =>
              simp only
              have jl : y.1 (q_sF x) < Js.length := by
                rcases Nat.lt_or_ge (y.1 (q_sF x)) Js.length with h9 | h9
                · exact h9
                · have e : q_jg Js (y.1 (q_sF x)) = q_J0 := by
                    unfold q_jg
                    rw [List.getD_eq_getElem?_getD, List.getElem?_eq_none (by omega)]
                    rfl
                  rw [e] at hk
                  exact absurd hk (Nat.not_lt_zero _)
              have jm : q_jg Js (y.1 (q_sF x)) ∈ Js := List.mem_of_getElem? (q_jg_e jl)
              have ec : (q_jg Js (y.1 (q_sF x))).2.2.2.getD k [] = (q_jg Js (y.1 (q_sF x))).2.2.2[k] := by
                rw [List.getD_eq_getElem?_getD, List.getElem?_eq_getElem hk]
                rfl
              have lt := q_dw_lt (p := q_pb9 (q_held B l (q_LT G) L (q_jg Js (y.1 (q_sF x))).2.2.1 y.2.1 (q_sF x) ps)) ((q_jg Js (y.1 (q_sF x))).2.2.2[k]) 0
              rw [hcl _ jm _ (List.getElem_mem hk)] at lt
              rw [ec]
              omega
          · rw [if_neg c1] at hk ⊢
            by_cases c2 : q_sS x = 2
            · exact (q_XP_2 hwf hz (lp1 x hx) c2 k hk).2.2
            · obtain ⟨LT9, t9, ht9, hx9⟩ := lp1 x hx
              have := (q_ln1_b hwf4 hx9 ht9).2.2.2.2.2.2.2.2.2.2.2 c2
              omega
