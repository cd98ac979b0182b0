section QNC
variable {κ : Nat → Nat} {b : Nat} {B : Nat → Int32} {l : List q_Tok} {zt : Nat} {C : q_CT} {S : Nat → Nat → Int64} {O : Nat → Int64} {D : q_Mem}
theorem q_MIo_Q {N N' : List q_Nam} {Q Q' : Nat → Nat → Int32} {nk i : Nat} {ps : List Int32} {os : q_Ops} (h : q_MIo N Q nk i ps os) (hp : N <+: N') (h48 : Q' 48 = Q 48) (h49 : Q' 49 = Q 49) (h50 : Q' 50 = Q 50) : q_MIo N' Q' nk i ps os := by
  refine ⟨fun j v hj => by rw [h48]; exact h.1 j v hj, fun j x hx => ?_⟩
  obtain ⟨⟨v, v1, v2⟩, v3, v4⟩ := h.2 j x hx
  exact ⟨⟨v, by rw [h49, v1], q_pre_g hp v2⟩, by rw [h50, v3], v4⟩
theorem q_MMk_Q {N N' : List q_Nam} {P P' : Nat → Int32} {Q Q' : Nat → Nat → Int32} {L : List q_Knd} (h : q_MMk N P Q L) (hp : N <+: N') (h22 : P' 22 = P 22) (hQ : ∀ j, 37 ≤ j → j ≤ 42 → Q' j = Q j) : q_MMk N' P' Q' L := ⟨h22.trans h.1, h.2.1, q_MK_ext h.2.2 hp (fun j x j1 j2 _ => by rw [hQ j (by omega) (by omega)]) (fun x _ => by rw [hQ 42 (by decide) (by decide)])⟩
theorem q_flen {ws : List (List Int32)} {z : Nat} (h : ∀ w ∈ ws, w.length = z) : ws.flatten.length = ws.length * z := by
  induction ws with
  | nil => simp
  | cons w ws ih =>
    rw [List.flatten_cons, List.length_append, h w List.mem_cons_self, ih (fun x hx => h x (List.mem_cons_of_mem _ hx)), List.length_cons, Nat.add_mul]
    omega
theorem q_neg_pl (o lo : Nat) (ho : o < 5) : ∀ d, lo + d ≤ 32 → ∀ c, q_neg (c ++ q_pl o lo d) = q_neg c := by
  intro d
  induction d with
  | zero => intro _ c; simp [q_pl]
  | succ d ih =>
    intro hd c
    have h1 : c ++ q_pl o lo (d + 1) = (c ++ [nI (32 * o + (lo + d))]) ++ q_pl o lo d := by simp [q_pl]
    have h2 : ¬ nI (32 * o + (lo + d)) < 0 := nI_pos (by omega)
    rw [h1, ih (by omega)]
    simp [q_neg, List.countP_append, h2]
theorem q_MW_new {Q : Nat → Nat → Int32} {i z : Nat} {ws : List (List Int32)} (h : q_MW Q i z ws) : q_MW Q i z (ws ++ [[]]) := by
  intro w x hx k s hk hs
  by_cases hw : w < ws.length
  · rw [List.getElem?_append_left hw] at hx
    exact h w x hx k s hk hs
  · rw [List.getElem?_append_right (by omega)] at hx
    cases hq : w - ws.length with
    | zero => rw [hq] at hx; simp at hx; subst hx; simp at hs
    | succ q => rw [hq] at hx; simp at hx
theorem q_mwords_31 {n m i z : Nat} {L : List q_Knd} {ps : List Int32} {os : q_Ops} (hz : z ≤ 32) (hi : i < 96) (hos : os.length ≤ 5) (hn : b + 66 < n) : ∀ f fuel t (P : Nat → Int32) (Q : Nat → Nat → Int32) (N : List q_Nam) (top : Nat) (ws : List (List Int32)) (c : List Int32) (e0 : Nat), q_TM B l zt P Q S → P 15 = nI t → P 21 = nI z → t ≤ l.length → l.length < t + f → f < fuel → q_PL N top P Q → N.length ≤ t → q_TP l top t → q_MMk N P Q L → q_MIo N Q L.length i ps os → Q 45 i = nI os.length → ws.length < 4 → (∀ w ∈ ws, w.length = z) → c.length ≤ 32 * t + e0 → q_TP l e0 t → e0 ≤ 6000 → q_MW Q i z (ws ++ [c]) → q_MC Q (ws.flatten ++ c) →
    ∃ P' Q', (∀ j, j ≠ 15 → j ≠ 19 → j ≠ 20 → P' j = P j) ∧ (∀ j, j ≠ 34 → j ≠ 35 → j ≠ 36 → j ≠ 46 → j ≠ 47 → j ≠ 51 → j ≠ 52 → Q' j = Q j) ∧ (∀ x, x < 160 * i → Q' 51 x = Q 51 x) ∧ (∀ x, x ≠ i → Q' 46 x = Q 46 x ∧ Q' 47 x = Q 47 x) ∧ (match q_pb B l L os z f ws c t with
      | .inl (k, p) => F_X13_words_31 κ fuel (some (b + 26)) (nI i) (nI ws.length) (nI c.length) (nI (q_negs ws + q_neg c)) (q_H b C (P, Q, S) O D, n, m) = q_thr Unit b C (P', Q', S) O D n m (nI k) (nI p)
      | .inr (ws', t') => F_X13_words_31 κ fuel (some (b + 26)) (nI i) (nI ws.length) (nI c.length) (nI (q_negs ws + q_neg c)) (q_H b C (P, Q, S) O D, n, m) = some (.inl (), (q_H b C (P', Q', S) O D, n, m)) ∧ P' 15 = nI t' ∧ Q' 46 i = nI ws'.length ∧ Q' 47 i = nI (q_negs ws') ∧ q_MW Q' i z ws' ∧ q_sgn l t' 59 = true ∧ ∃ N' top', q_PL N' top' P' Q' ∧ N <+: N' ∧ N'.length ≤ t' ∧ q_TP l top' t') := by
  intro f
  induction f with
  | zero => intro fuel t P Q N top ws c e0 h ha h21 ht htf; omega
  | succ f ih =>
    intro fuel t P Q N top ws c e0 h ha h21 ht htf hfu hP hN hT hk hm h45 hws hwl hcl hE he0 hmw hmc
    obtain ⟨fu, rfl⟩ : ∃ fu, fuel = fu + 1 := ⟨fuel - 1, by omega⟩
    have hzt := h.2.2.1
    have hl := h.2.1
    have hwf := h.2.2.2.2.1
    have i1 : nI 1 = 1 := rfl
    have i2 : nI 2 = 2 := rfl
    have i3 : nI 3 = 3 := rfl
    have i4 : nI 4 = 4 := rfl
    have i5 : nI 5 = 5 := rfl
    have hflen := q_flen hwl
    have hwz : ws.length * z ≤ 3 * 32 := Nat.mul_le_mul (by omega) hz
    have c124 := q_msign (κ := κ) (b := b) (C := C) (O := O) (D := D) (s := (n, m)) (c := 124) h (t := t) (by omega)
    have c59 := q_msign (κ := κ) (b := b) (C := C) (O := O) (D := D) (s := (n, m)) (c := 59) h (t := t) (by omega)
    have h2 : (Q 30 t = (2 : Int32)) ↔ (q_tok l t).1 = 2 := q_TM_is (c := 2) h (by omega) (by decide)
    have nsg : ∀ v, ¬ (q_tok l t).1 = 3 → q_sgn l t v = false := fun v hv => decide_eq_false (fun h9 => hv h9.1)
    have fr0 : ∀ x, x ≠ i → Q 46 x = Q 46 x ∧ Q 47 x = Q 47 x := fun _ _ => ⟨rfl, rfl⟩
    unfold q_pb
    by_cases hy2 : (q_tok l t).1 = 2
    · rw [if_pos hy2]
      have hlt := q_tok_lt (l := l) (t := t) (by omega)
      obtain ⟨w1, w2, w3, -⟩ := hwf t _ (q_tok_s hlt)
      have s1 := nsg 124 (by omega)
      have s2 := nsg 59 (by omega)
      obtain ⟨Q1, r1, r2, r3⟩ := q_mdigits (κ := κ) (b := b) (C := C) (O := O) (D := D) (m := m) (r := F_X13_words_31 κ fu) (dg := q_negs ws) hz hi hws hwl hlt ha h21 hn ((q_tok l t).2.2.1 - (q_tok l t).2.1) q_fu 0 Q c (q_negs ws + q_neg c) h (by omega) (by unfold q_fu; omega) (by omega) rfl hmw
      rw [nI_0, Nat.add_zero] at r3
      have step : F_X13_words_31 κ (fu + 1) (some (b + 26)) (nI i) (nI ws.length) (nI c.length) (nI (q_negs ws + q_neg c)) (q_H b C (P, Q, S) O D, n, m) = F_X13_words_155 κ (F_X13_words_31 κ fu) q_fu (some (b + 26)) (nI i) (nI ws.length) (nI c.length) (nI (q_negs ws + q_neg c)) 0 (q_H b C (P, Q, S) O D, n, m) := by
        rw [F_X13_words_31]
        simp (disch := first | rfl | omega | decide | exact Nat.le_of_ble_eq_true rfl) only [↓q_br, q_rt, q_rz, q_gd, q_ca, ↓reduceIte, F_X13_words_31B, ↓q_gA_26_9, ↓q_gI_26_15, ↓q_is_26, ↓q_lI_30, ha, c124, s1, q_b_0, not_true_eq_false, c59, s2, h2, hy2]
      rw [step]
      by_cases hob : q_ob B (q_tok l t) = true
      · rw [if_pos hob]
        have hob' : q_al (fun x => decide (B x = 48) || decide (B x = 49)) ((q_tok l t).2.2.1 - (q_tok l t).2.1) (q_tok l t).2.1 = true := hob
        rw [if_pos hob'] at r3
        obtain ⟨r3, r4⟩ := r3
        have hT1 : q_TM B l zt (q_u1 P 15 (nI (t + 1))) Q1 S := q_TM_P h (q_u1_n _ _ (by decide)) (r1 28 (by decide)) (r1 30 (by decide)) (r1 31 (by decide)) (r1 32 (by decide))
        have hmc1 : q_MC Q1 (ws.flatten ++ (c ++ q_dl B ((q_tok l t).2.2.1 - (q_tok l t).2.1) (q_tok l t).2.1)) := by
          intro v hv
          rw [r1 52 (by decide), hmc v hv]
          congr 1
          rw [← List.append_assoc, List.count_append (a := nI v) (l₁ := ws.flatten ++ c)]
          have : ∀ d p, List.count (nI v) (q_dl B d p) = 0 := by
            intro d
            induction d with
            | zero => intro p; rfl
            | succ d ih2 =>
              intro p
              have hne : ¬ q_d1 (B p) = nI v := by
                intro h9
                have h8 : q_d1 (B p) < 0 := by unfold q_d1; split <;> decide
                rw [h9] at h8
                exact nI_pos (by omega) h8
              rw [q_dl, List.count_cons, ih2]
              simp [hne]
          rw [this]
          rfl
        obtain ⟨P', Q', y1, y2, y3, y4, y5⟩ := ih fu (t + 1) (q_u1 P 15 (nI (t + 1))) Q1 N top ws (c ++ q_dl B ((q_tok l t).2.2.1 - (q_tok l t).2.1) (q_tok l t).2.1) (q_tok l t).2.2.1 hT1 (q_u1_s _ _ _) (by rw [q_u1_n _ _ (by decide), h21]) (by omega) (by omega) (by omega) (q_PL_P hP (q_u1_n _ _ (by decide)) (q_u1_n _ _ (by decide)) (r1 34 (by decide)) (r1 35 (by decide)) (r1 36 (by decide))) (by omega) (fun t' q1 q2 => hT t' (by omega) q2) (q_MMk_Q hk (List.prefix_refl _) (q_u1_n _ _ (by decide)) (fun j j1 j2 => r1 j (by omega))) (q_MIo_Q hm (List.prefix_refl _) (r1 48 (by decide)) (r1 49 (by decide)) (r1 50 (by decide))) (by rw [r1 45 (by decide), h45]) hws hwl (by rw [List.length_append, q_dl_len]; have := hE t (Nat.le_refl _) hlt; omega) (q_TP_next hwf (Nat.le_refl _)) (by omega) r4 hmc1
        refine ⟨P', Q', fun j j1 j2 j3 => by rw [y1 j j1 j2 j3, q_u1_n _ _ j1], fun j j1 j2 j3 j4 j5 j6 j7 => by rw [y2 j j1 j2 j3 j4 j5 j6 j7, r1 j j6], fun x hx => by rw [y3 x hx, r2 x hx], fun x hx => by rw [(y4 x hx).1, (y4 x hx).2, r1 46 (by decide), r1 47 (by decide)]; exact ⟨rfl, rfl⟩, ?_⟩
        rw [r3]
        cases hq : q_pb B l L os z f ws (c ++ q_dl B ((q_tok l t).2.2.1 - (q_tok l t).2.1) (q_tok l t).2.1) (t + 1) with
        | inl e => obtain ⟨k, p⟩ := e; rw [hq] at y5; exact y5
        | inr e => obtain ⟨ws', t'⟩ := e; rw [hq] at y5; exact y5
      · rw [if_neg hob]
        have hob' : ¬ q_al (fun x => decide (B x = 48) || decide (B x = 49)) ((q_tok l t).2.2.1 - (q_tok l t).2.1) (q_tok l t).2.1 = true := hob
        rw [if_neg hob'] at r3
        exact ⟨P, Q1, fun _ _ _ _ => rfl, fun j _ _ _ _ _ j6 _ => r1 j j6, r2, fun x _ => by rw [r1 46 (by decide), r1 47 (by decide)]; exact ⟨rfl, rfl⟩, r3⟩
    · rw [if_neg hy2]
      by_cases hy1 : (q_tok l t).1 = 1
      · rw [if_pos hy1]
        have hlt := q_tok_lt (l := l) (t := t) (by omega)
        have s1 := nsg 124 (by omega)
        have s2 := nsg 59 (by omega)
        have d1 := q_expectName_t (κ := κ) (b := b) (C := C) (O := O) (D := D) (s := (n, m)) h ha hy1
        have h1 : q_TM B l zt (q_u1 P 15 (nI (t + 1))) Q S := q_TM_P h (q_u1_n _ _ (by decide)) rfl rfl rfl rfl
        have hP1 : q_PL N top (q_u1 P 15 (nI (t + 1))) Q := q_PL_P hP (q_u1_n _ _ (by decide)) (q_u1_n _ _ (by decide)) rfl rfl rfl
        obtain ⟨N2, top2, w, P2, Q2, n1, n2, n3, n4, n5, n6, n7⟩ := q_nameOf (κ := κ) (b := b) (C := C) (O := O) (D := D) (s := (n, m)) h1 hy1 hP1 hN (hT t (Nat.le_refl _) hlt)
        have hpre : N <+: N2 := by
          rcases n4 with e | e <;> rw [e]
          · exact List.prefix_refl _
          · exact List.prefix_append _ _
        have hN2 : N2.length ≤ t + 1 := by
          rcases n4 with e | e <;> rw [e]
          · omega
          · simp only [List.length_append, List.length_cons, List.length_nil]; omega
        have ha2 : P2 15 = nI (t + 1) := by rw [n6 15 (by decide) (by decide), q_u1_s]
        have h2t : q_TM B l zt P2 Q2 S := q_TM_P h1 (n6 13 (by decide) (by decide)) (n7 28 (by decide) (by decide) (by decide)) (n7 30 (by decide) (by decide) (by decide)) (n7 31 (by decide) (by decide) (by decide)) (n7 32 (by decide) (by decide) (by decide))
        have hT2 : q_TP l top2 (t + 1) := q_TP_next hwf n5
        have fP2 : ∀ j, j ≠ 15 → j ≠ 19 → j ≠ 20 → P2 j = P j := fun j j1 j2 j3 => by rw [n6 j j2 j3, q_u1_n _ _ j1]
        have hm2 : q_MIo N2 Q2 L.length i ps os := q_MIo_Q hm hpre (n7 48 (by decide) (by decide) (by decide)) (n7 49 (by decide) (by decide) (by decide)) (n7 50 (by decide) (by decide) (by decide))
        have hk2 : q_MMk N2 P2 Q2 L := q_MMk_Q hk hpre (fP2 22 (by decide) (by decide) (by decide)) (fun j j1 j2 => n7 j (by omega) (by omega) (by omega))
        have h45' : Q2 45 i = nI os.length := by rw [n7 45 (by decide) (by decide) (by decide), h45]
        have r := q_m297 (κ := κ) (b := b) (C := C) (S := S) (O := O) (D := D) (s := (n, m)) (r := F_X13_words_31 κ fu) (l2 := nI ws.length) (l3 := nI c.length) (l4 := nI (q_negs ws + q_neg c)) (tt := nI t) n2 hm2 h45' hi hos n3 os.length q_fu 0 (by omega) (by unfold q_fu; omega)
        rw [nI_0] at r
        have step : F_X13_words_31 κ (fu + 1) (some (b + 26)) (nI i) (nI ws.length) (nI c.length) (nI (q_negs ws + q_neg c)) (q_H b C (P, Q, S) O D, n, m) = F_X13_words_330 κ (F_X13_words_31 κ fu) (some (b + 26)) (nI i) (nI ws.length) (nI c.length) (nI (q_negs ws + q_neg c)) (nI t) (nI ((q_oi B l t os).getD os.length)) (q_H b C (P2, Q2, S) O D, n, m) := by
          rw [F_X13_words_31]
          simp (disch := first | rfl | omega | decide | exact Nat.le_of_ble_eq_true rfl) only [↓q_br, q_rt, q_rz, q_gd, q_ca, ↓reduceIte, F_X13_words_31B, ↓q_gA_26_9, ↓q_gI_26_15, ↓q_is_26, ↓q_lI_30, ha, c124, s1, q_b_0, not_true_eq_false, c59, s2, h2, hy2, not_false_eq_true, d1, n1, r]
          rfl
        have fQ2 : ∀ j, j ≠ 34 → j ≠ 35 → j ≠ 36 → Q2 j = Q j := n7
        rw [step]
        cases hq : q_oi B l t os with
        | none =>
          refine ⟨P2, Q2, fP2, fun j j1 j2 j3 _ _ _ _ => fQ2 j j1 j2 j3, fun x _ => by rw [fQ2 51 (by decide) (by decide) (by decide)], fun x _ => by rw [fQ2 46 (by decide) (by decide) (by decide), fQ2 47 (by decide) (by decide) (by decide)]; exact ⟨rfl, rfl⟩, ?_⟩
          simp (disch := first | rfl | omega | decide | exact Nat.le_of_ble_eq_true rfl) only [↓q_br, q_rt, q_rz, q_gd, q_ca, ↓reduceIte, F_X13_words_330, ↓q_gA_26_28, ↓q_gA_26_32, ↓q_gA_26_37, ↓q_gI_26_15, ↓q_is_26, ↓q_lI_41, ↓q_lI_45, ↓q_lI_50, ↓q_pI_26_15, Option.getD_none, h45', not_true_eq_false, q_mk_H, reduceCtorEq, not_false_eq_true, q_fault, qd_Su, q_tr, i2]
        | some o =>
          have hol : o < os.length := by
            unfold q_oi at hq
            have := (q_fi_s _ _ _ hq).2.1
            omega
          obtain ⟨P3, r1, r2⟩ := q_m330 (κ := κ) (b := b) (C := C) (O := O) (D := D) (m := m) (r := F_X13_words_31 κ fu) (l2 := nI ws.length) (l3 := nI c.length) (l4 := nI (q_negs ws + q_neg c)) (tt := nI t) h2t ha2 (by omega) hm2 hk2 h45' hi hos hol hn
          simp only [Option.getD_some]
          cases hp : q_pc l (q_kb L os o) (t + 1) with
          | inl e =>
            obtain ⟨k, p⟩ := e
            rw [hp] at r2
            exact ⟨P3, Q2, fun j j1 j2 j3 => by rw [r1 j j1, fP2 j j1 j2 j3], fun j j1 j2 j3 _ _ _ _ => fQ2 j j1 j2 j3, fun x _ => by rw [fQ2 51 (by decide) (by decide) (by decide)], fun x _ => by rw [fQ2 46 (by decide) (by decide) (by decide), fQ2 47 (by decide) (by decide) (by decide)]; exact ⟨rfl, rfl⟩, r2⟩
          | inr e =>
            obtain ⟨hh, lo, t'⟩ := e
            rw [hp] at r2
            obtain ⟨r2, r3, r4, r5, r6⟩ := r2
            obtain ⟨kx, x1, x2, x3, x4, x5⟩ := q_mkb hm2 hk2 hol
            have hmw2 : q_MW Q2 i z (ws ++ [c]) := q_MW_Q hmw (fQ2 51 (by decide) (by decide) (by decide))
            have hmc2 : q_MC Q2 (ws.flatten ++ c) := fun v hv => by rw [fQ2 52 (by decide) (by decide) (by decide)]; exact hmc v hv
            obtain ⟨Q3, q1, q2, q3, q4, q5⟩ := q_mpieces (κ := κ) (b := b) (C := C) (S := S) (O := O) (D := D) (s := (n, m)) (P := q_u1 P2 15 (nI t')) (r := F_X13_words_31 κ fu) (o := o) (low := lo) (dg := nI (q_negs ws + q_neg c)) hz hi hws hwl (by omega) (by rw [q_u1_n _ _ (by decide), fP2 21 (by decide) (by decide) (by decide), h21]) (hh + 1 - lo) q_fu Q2 c (by omega) (by unfold q_fu; omega) (by omega) (by rw [List.length_append, hflen]; omega) hmw2 hmc2
            have e9 : nI (lo + (hh + 1 - lo)) - 1 = nI hh := by
              have : lo + (hh + 1 - lo) = hh + 1 := by omega
              rw [this, nI_pred]
            rw [e9] at q3
            have hng : q_negs ws + q_neg c = q_negs ws + q_neg (c ++ q_pl o lo (hh + 1 - lo)) := by rw [q_neg_pl o lo (by omega) _ (by omega)]
            have hT3 : q_TM B l zt (q_u1 P2 15 (nI t')) Q3 S := q_TM_P h2t (q_u1_n _ _ (by decide)) (q1 28 (by decide) (by decide)) (q1 30 (by decide) (by decide)) (q1 31 (by decide) (by decide)) (q1 32 (by decide) (by decide))
            obtain ⟨P', Q', y1, y2, y3, y4, y5⟩ := ih fu t' (q_u1 P2 15 (nI t')) Q3 N2 top2 ws (c ++ q_pl o lo (hh + 1 - lo)) e0 hT3 (q_u1_s _ _ _) (by rw [q_u1_n _ _ (by decide), fP2 21 (by decide) (by decide) (by decide), h21]) r6 (by omega) (by omega) (q_PL_P n2 (q_u1_n _ _ (by decide)) (q_u1_n _ _ (by decide)) (q1 34 (by decide) (by decide)) (q1 35 (by decide) (by decide)) (q1 36 (by decide) (by decide))) (by omega) (fun t'' a1 a2 => hT2 t'' (by omega) a2) (q_MMk_Q hk2 (List.prefix_refl _) (q_u1_n _ _ (by decide)) (fun j j1 j2 => q1 j (by omega) (by omega))) (q_MIo_Q hm2 (List.prefix_refl _) (q1 48 (by decide) (by decide)) (q1 49 (by decide) (by decide)) (q1 50 (by decide) (by decide))) (by rw [q1 45 (by decide) (by decide), h45']) hws hwl (by rw [List.length_append, q_pl_len]; omega) (fun t'' a1 a2 => hE t'' (by omega) a2) he0 q4 q5
            refine ⟨P', Q', fun j j1 j2 j3 => by rw [y1 j j1 j2 j3, q_u1_n _ _ j1, fP2 j j1 j2 j3], fun j j1 j2 j3 j4 j5 j6 j7 => by rw [y2 j j1 j2 j3 j4 j5 j6 j7, q1 j j6 j7, fQ2 j j1 j2 j3], fun x hx => by rw [y3 x hx, q2 x hx, fQ2 51 (by decide) (by decide) (by decide)], fun x hx => by rw [(y4 x hx).1, (y4 x hx).2, q1 46 (by decide) (by decide), q1 47 (by decide) (by decide), fQ2 46 (by decide) (by decide) (by decide), fQ2 47 (by decide) (by decide) (by decide)]; exact ⟨rfl, rfl⟩, ?_⟩
            rw [r2, q3, hng]
            simp only
            cases hq3 : q_pb B l L os z f ws (c ++ q_pl o lo (hh + 1 - lo)) t' with
            | inl e => obtain ⟨k, p⟩ := e; rw [hq3] at y5; exact y5
            | inr e =>
              obtain ⟨ws', t2⟩ := e
              rw [hq3] at y5
              obtain ⟨z1, z2, z3, z4, z5, z6, N', top', z7, z8, z9⟩ := y5
              exact ⟨z1, z2, z3, z4, z5, z6, N', top', z7, hpre.trans z8, z9⟩
      · rw [if_neg hy1]
        have d1 := q_expectName_f (κ := κ) (b := b) (C := C) (O := O) (D := D) (m := m) h ha (by omega) hy1 hn
        have hcz : (nI c.length = nI z) ↔ c.length = z := nI_eq (by omega) (by omega)
        by_cases hs124 : q_sgn l t 124 = true
        · rw [if_pos hs124]
          have hlt := q_tok_lt (l := l) (t := t) (by have := (of_decide_eq_true hs124).1; omega)
          have h3' : (nI ws.length = (3 : Int32)) ↔ ws.length = 3 := nI_eq (b := 3) (by omega) (by decide)
          have one0 : ¬ q_b true = 0 := by decide
          by_cases h3 : ws.length = 3
          · rw [if_pos h3]
            have h3t : (nI ws.length = (3 : Int32)) = True := eq_true (h3'.mpr h3)
            refine ⟨P, Q, fun _ _ _ _ => rfl, fun _ _ _ _ _ _ _ _ => rfl, fun _ _ => rfl, fr0, ?_⟩
            show F_X13_words_31 κ (fu + 1) (some (b + 26)) (nI i) (nI ws.length) (nI c.length) (nI (q_negs ws + q_neg c)) (q_H b C (P, Q, S) O D, n, m) = q_thr Unit b C (P, Q, S) O D n m (nI 3) (nI t)
            rw [F_X13_words_31]
            simp (disch := first | rfl | omega | decide | exact Nat.le_of_ble_eq_true rfl) only [↓q_br, q_rt, q_rz, q_gd, q_ca, ↓reduceIte, F_X13_words_31B, F_X13_words_57, ↓q_gA_26_9, ↓q_gI_26_15, ↓q_is_26, ↓q_lI_30, ha, c124, hs124, one0, not_false_eq_true, h3t, not_true_eq_false, q_mk_H, reduceCtorEq, not_false_eq_true, q_fault, qd_Su, q_tr, i3]
          · rw [if_neg h3]
            by_cases hc : c.length = z
            · rw [if_pos hc]
              have hczt : (nI c.length = nI z) = True := eq_true (hcz.mpr hc)
              have hlw : (ws ++ [c]).length = ws.length + 1 := by simp
              have hT1 : q_TM B l zt (q_u1 P 15 (nI (t + 1))) Q S := q_TM_P h (q_u1_n _ _ (by decide)) rfl rfl rfl rfl
              have hfl2 : (ws ++ [c]).flatten ++ [] = ws.flatten ++ c := q_flat_add ws c
              have hng : q_negs (ws ++ [c]) + q_neg [] = q_negs ws + q_neg c := by rw [q_negs_add]; simp [q_neg]
              obtain ⟨P', Q', y1, y2, y3, y4, y5⟩ := ih fu (t + 1) (q_u1 P 15 (nI (t + 1))) Q N top (ws ++ [c]) [] e0 hT1 (q_u1_s _ _ _) (by rw [q_u1_n _ _ (by decide), h21]) (by omega) (by omega) (by omega) (q_PL_P hP (q_u1_n _ _ (by decide)) (q_u1_n _ _ (by decide)) rfl rfl rfl) (by omega) (fun t' q1 q2 => hT t' (by omega) q2) (q_MMk_Q hk (List.prefix_refl _) (q_u1_n _ _ (by decide)) (fun _ _ _ => rfl)) hm h45 (by rw [hlw]; omega) (fun w hw => by
                  rcases List.mem_append.mp hw with h1 | h1
                  · exact hwl w h1
                  · simp only [List.mem_singleton] at h1; rw [h1, hc]) (by simp) (fun t'' a1 a2 => hE t'' (by omega) a2) he0 (q_MW_new hmw) (by rw [hfl2]; exact hmc)
              rw [hlw, hng, List.length_nil, nI_0] at y5
              refine ⟨P', Q', fun j j1 j2 j3 => by rw [y1 j j1 j2 j3, q_u1_n _ _ j1], y2, y3, y4, ?_⟩
              have step : F_X13_words_31 κ (fu + 1) (some (b + 26)) (nI i) (nI ws.length) (nI c.length) (nI (q_negs ws + q_neg c)) (q_H b C (P, Q, S) O D, n, m) = F_X13_words_31 κ fu (some (b + 26)) (nI i) (nI (ws.length + 1)) 0 (nI (q_negs ws + q_neg c)) (q_H b C (q_u1 P 15 (nI (t + 1)), Q, S) O D, n, m) := by
                rw [F_X13_words_31]
                simp (disch := first | rfl | omega | decide | exact Nat.le_of_ble_eq_true rfl) only [↓q_br, q_rt, q_rz, q_gd, q_ca, ↓reduceIte, F_X13_words_31B, F_X13_words_57, F_X13_words_92, ↓q_gA_26_9, ↓q_gI_26_15, ↓q_gI_26_21, ↓q_is_26, ↓q_lI_30, ↓q_pI_26_15, ha, c124, hs124, one0, not_false_eq_true, h3', h3, h21, hczt, nI_1]
              rw [step]
              cases hq3 : q_pb B l L os z f (ws ++ [c]) [] (t + 1) with
              | inl e => obtain ⟨k, p⟩ := e; rw [hq3] at y5; exact y5
              | inr e => obtain ⟨ws', t2⟩ := e; rw [hq3] at y5; exact y5
            · rw [if_neg hc]
              refine ⟨P, Q, fun _ _ _ _ => rfl, fun _ _ _ _ _ _ _ _ => rfl, fun _ _ => rfl, fr0, ?_⟩
              show F_X13_words_31 κ (fu + 1) (some (b + 26)) (nI i) (nI ws.length) (nI c.length) (nI (q_negs ws + q_neg c)) (q_H b C (P, Q, S) O D, n, m) = q_thr Unit b C (P, Q, S) O D n m (nI 4) (nI t)
              rw [F_X13_words_31]
              simp (disch := first | rfl | omega | decide | exact Nat.le_of_ble_eq_true rfl) only [↓q_br, q_rt, q_rz, q_gd, q_ca, ↓reduceIte, F_X13_words_31B, F_X13_words_57, F_X13_words_92, ↓q_gA_26_9, ↓q_gI_26_15, ↓q_gI_26_21, ↓q_is_26, ↓q_lI_30, ↓q_pI_26_15, ha, c124, hs124, one0, not_false_eq_true, h3', h3, h21, hcz, hc, q_mk_H, reduceCtorEq, not_false_eq_true, q_fault, qd_Su, q_tr, i4]
        · rw [if_neg hs124]
          have hs124' : q_sgn l t 124 = false := by simpa using hs124
          have q00 : q_b false = 0 := rfl
          by_cases hs59 : q_sgn l t 59 = true
          · rw [if_pos hs59]
            have hlt := q_tok_lt (l := l) (t := t) (by have := (of_decide_eq_true hs59).1; omega)
            by_cases hc : c.length = z
            · rw [if_pos hc]
              have hczt : (nI c.length = nI z) = True := eq_true (hcz.mpr hc)
              have r := q_m535 (κ := κ) (b := b) (C := C) (S := S) (O := O) (D := D) (m := m) (wn := ws.length + 1) (dg := q_negs ws + q_neg c) ha hm hk h45 hi hos hmc (by rw [List.length_append, hflen]; omega) hn os.length q_fu 0 (by omega) (by unfold q_fu; omega)
              rw [nI_0] at r
              have step : F_X13_words_31 κ (fu + 1) (some (b + 26)) (nI i) (nI ws.length) (nI c.length) (nI (q_negs ws + q_neg c)) (q_H b C (P, Q, S) O D, n, m) = F_X13_words_535 κ q_fu (some (b + 26)) (nI i) (nI (ws.length + 1)) (nI (q_negs ws + q_neg c)) 0 (q_H b C (P, Q, S) O D, n, m) := by
                rw [F_X13_words_31]
                simp (disch := first | rfl | omega | decide | exact Nat.le_of_ble_eq_true rfl) only [↓q_br, q_rt, q_rz, q_gd, q_ca, ↓reduceIte, F_X13_words_31B, F_X13_words_57, F_X13_words_92, ↓q_gA_26_9, ↓q_gI_26_15, ↓q_gI_26_21, ↓q_is_26, ↓q_lI_30, ↓q_pI_26_15, ha, c124, hs124', q00, not_true_eq_false, c59, hs59, q_b_0, Bool.true_eq_false, h21, hczt, nI_1]
              rw [step, r]
              by_cases hon : q_once (q_kb L os) os.length (ws.flatten ++ c) = true
              · rw [if_pos hon]
                have hon' : q_al (fun o => q_al (fun k => decide ((ws.flatten ++ c).count (nI (32 * o + k)) = 1)) (q_kb L os o) 0) os.length 0 = true := hon
                rw [if_pos hon']
                refine ⟨P, q_u2 (q_u2 Q 46 i (nI (ws.length + 1))) 47 i (nI (q_negs ws + q_neg c)), fun _ _ _ _ => rfl, fun j _ _ _ j4 j5 _ _ => by rw [q_u2_n _ _ _ j5, q_u2_n _ _ _ j4], fun x _ => by simp (disch := first | rfl | omega | decide | exact Nat.le_of_ble_eq_true rfl) only [q_u2_n], fun x hx => ⟨by rw [q_u2_n _ _ _ (by decide), q_u2_s, q_u1_n _ _ hx], by rw [q_u2_s, q_u1_n _ _ hx, q_u2_n _ _ _ (by decide)]⟩, rfl, ha, ?_, ?_, ?_, hs59, N, top, ?_, List.prefix_refl _, hN, hT⟩
                · rw [q_u2_n _ _ _ (by decide), q_u2_s, q_u1_s]
                  simp
                · rw [q_u2_s, q_u1_s, q_negs_add]
                · exact q_MW_Q hmw (by simp (disch := first | rfl | omega | decide | exact Nat.le_of_ble_eq_true rfl) only [q_u2_n])
                · exact q_PL_P hP rfl rfl (by simp (disch := first | rfl | omega | decide | exact Nat.le_of_ble_eq_true rfl) only [q_u2_n]) (by simp (disch := first | rfl | omega | decide | exact Nat.le_of_ble_eq_true rfl) only [q_u2_n]) (by simp (disch := first | rfl | omega | decide | exact Nat.le_of_ble_eq_true rfl) only [q_u2_n])
              · rw [if_neg hon]
                have hon' : ¬ q_al (fun o => q_al (fun k => decide ((ws.flatten ++ c).count (nI (32 * o + k)) = 1)) (q_kb L os o) 0) os.length 0 = true := hon
                rw [if_neg hon']
                exact ⟨P, Q, fun _ _ _ _ => rfl, fun _ _ _ _ _ _ _ _ => rfl, fun _ _ => rfl, fr0, rfl⟩
            · rw [if_neg hc]
              refine ⟨P, Q, fun _ _ _ _ => rfl, fun _ _ _ _ _ _ _ _ => rfl, fun _ _ => rfl, fr0, ?_⟩
              show F_X13_words_31 κ (fu + 1) (some (b + 26)) (nI i) (nI ws.length) (nI c.length) (nI (q_negs ws + q_neg c)) (q_H b C (P, Q, S) O D, n, m) = q_thr Unit b C (P, Q, S) O D n m (nI 4) (nI t)
              rw [F_X13_words_31]
              simp (disch := first | rfl | omega | decide | exact Nat.le_of_ble_eq_true rfl) only [↓q_br, q_rt, q_rz, q_gd, q_ca, ↓reduceIte, F_X13_words_31B, F_X13_words_57, F_X13_words_92, ↓q_gA_26_9, ↓q_gI_26_15, ↓q_gI_26_21, ↓q_is_26, ↓q_lI_30, ↓q_pI_26_15, ha, c124, hs124', q00, not_true_eq_false, c59, hs59, q_b_0, Bool.true_eq_false, h21, hcz, hc, q_mk_H, reduceCtorEq, not_false_eq_true, q_fault, qd_Su, q_tr, i4]
          · rw [if_neg hs59]
            have hs59' : q_sgn l t 59 = false := by simpa using hs59
            refine ⟨P, Q, fun _ _ _ _ => rfl, fun _ _ _ _ _ _ _ _ => rfl, fun _ _ => rfl, fr0, ?_⟩
            show F_X13_words_31 κ (fu + 1) (some (b + 26)) (nI i) (nI ws.length) (nI c.length) (nI (q_negs ws + q_neg c)) (q_H b C (P, Q, S) O D, n, m) = q_thr Unit b C (P, Q, S) O D n m (nI 1) (nI t)
            rw [F_X13_words_31]
            simp (disch := first | rfl | omega | decide | exact Nat.le_of_ble_eq_true rfl) only [↓q_br, q_rt, q_rz, q_gd, q_ca, ↓reduceIte, F_X13_words_31B, ↓q_gA_26_9, ↓q_gI_26_15, ↓q_is_26, ↓q_lI_30, ha, c124, hs124', q_b_0, not_true_eq_false, c59, hs59', h2, hy2, not_false_eq_true, d1, i1]
end QNC
