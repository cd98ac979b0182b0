section QBG
variable {κ : Nat → Nat} {b : Nat} {B : Nat → Int32} {l : List q_Tok} {zt : Nat} {R : Nat → Nat → Option Nat} {X : Nat → Nat → Int32} {Z : Nat → Nat → Option Nat} {M : q_MT} {O : Nat → Int64} {s : Nat × Nat}
theorem q_leg_d {kb : Nat → Nat} {no : Nat} {tot : List Int32} {B : Nat → Int32} (h : q_leg kb no tot) : ∀ d p, q_leg kb no (tot ++ q_dl B d p) := by
  intro d p v hv hn
  rcases List.mem_append.mp hv with h1 | h1
  · exact h v h1 hn
  · exfalso
    apply hn
    have : ∀ d p, ∀ v ∈ q_dl B d p, v < 0 := by
      intro d
      induction d with
      | zero => intro p v hv; cases hv
      | succ d ih =>
        intro p v hv
        simp only [q_dl, List.mem_cons] at hv
        rcases hv with rfl | hv
        · unfold q_d1; split <;> decide
        · exact ih _ _ hv
    exact this d p v h1
theorem q_leg_p {kb : Nat → Nat} {no o lo : Nat} {tot : List Int32} (h : q_leg kb no tot) (ho : o < no) : ∀ d, lo + d ≤ kb o → q_leg kb no (tot ++ q_pl o lo d) := by
  intro d hd v hv hn
  rcases List.mem_append.mp hv with h1 | h1
  · exact h v h1 hn
  · have : ∀ d, lo + d ≤ kb o → ∀ v ∈ q_pl o lo d, ∃ o k, o < no ∧ k < kb o ∧ v = nI (32 * o + k) := by
      intro d
      induction d with
      | zero => intro _ v hv; cases hv
      | succ d ih =>
        intro hd v hv
        simp only [q_pl, List.mem_cons] at hv
        rcases hv with rfl | hv
        · exact ⟨o, lo + d, ho, by omega, rfl⟩
        · exact ih (by omega) v hv
    exact this d hd v h1
theorem q_rb_end {I : Nat → Nat → Int32} {Y : Nat → Nat → Int64} {D : q_Mem} {fu : Nat} {op cn : Int32} (h26 : I 2 6 = nI l.length) (h : op = 0 ∨ ¬ I 14 2 = 0) : F_X0_readBits_22 κ (fu + 1) (some (b + 19)) op cn (q_H b (I, R, X, Y, Z) M O D, s) = some (.inl (), (q_H b (I, R, X, Y, Z) M O D, s)) := by
  rw [F_X0_readBits_22]
  simp (disch := first | rfl | omega | decide | exact Nat.le_of_ble_eq_true rfl) only [↓q_br, q_rt, q_rz, q_gd, q_ca, ↓reduceIte, F_X0_readBits_22B, F_X0_readBits_147, ↓q_gA_19_0, ↓q_gA_19_1, ↓q_gA_2_1, ↓q_gI_14_1, ↓q_gI_2_6, ↓q_is_14, ↓q_is_19, ↓q_lI_4, ↓q_gI_2_6, ↓q_is_14, h26, q_hasFault, q_b_0]
  by_cases h1 : nI l.length < cn
  · simp [h1]
  · by_cases h2 : op = 0
    · simp [h1, h2]
    · have h3 := h.resolve_left h2
      simp [h1, h2, h3]
theorem q_readBits_22 {n z a : Nat} {mn : q_Nam} {ps : List Int32} {os : q_Ops} {L : List q_Knd} (hR : R 19 3 = some a) (hz : z ≤ 32) (hos : os.length ≤ 5) : ∀ f fuel cn t (I : Nat → Nat → Int32) (Y : Nat → Nat → Int64) (D : q_Mem) (ws : List (List Int32)) (c : List Int32) (e0 : Nat), q_TC B l zt I X Y → I 14 1 = nI t → I 14 2 = 0 → I 8 2 = nI z → t ≤ l.length → l.length < t + f → cn ≤ t → f + 1 < fuel → ws.length < 4 → c.length ≤ 32 * t + e0 → q_TP l e0 t → e0 ≤ 6000 → q_CB b n D Z L.length z a mn ps os ws c I Y → (∀ k K, L[k]? = some K → ∃ x, Z 9 k = some x ∧ q_CKd b a D x K) → q_leg (q_kb L os) os.length (ws.flatten ++ c) → (∀ w ∈ ws, w.length = z) →
    ∃ I' Y' D', F_X0_readBits_22 κ fuel (some (b + 19)) 1 (nI cn) (q_H b (I, R, X, Y, Z) M O D, s) = some (.inl (), (q_H b (I', R, X, Y', Z) M O D', s)) ∧ (∀ j, j ≠ 14 → j ≠ 19 → I' j = I j) ∧ (∀ j, j ≠ 20 → Y' j = Y j) ∧ (∀ x, x < a → D' x = D x) ∧ (match q_pb B l L os z f ws c t with
      | .inl (k, p) => I' 14 2 = nI k ∧ I' 14 3 = nI p ∧ 1 ≤ k ∧ k ≤ 5
      | .inr (ws', t') => I' 14 1 = nI (t' + 1) ∧ I' 14 2 = 0 ∧ I' 14 3 = I 14 3 ∧ t ≤ t' ∧ t' < l.length ∧ q_sgn l t' 59 = true ∧ ws'.length ≤ 4 ∧ 1 ≤ ws'.length ∧ (∀ w ∈ ws', w.length = z) ∧ q_leg (q_kb L os) os.length ws'.flatten ∧ q_CIb b n D' Z L.length z a mn ps os ws' []) := by
  intro f
  induction f with
  | zero => intro fuel cn t I Y D ws c e0 h ha hf h82 ht htf; omega
  | succ f ih =>
    intro fuel cn t I Y D ws c e0 h ha hf h82 ht htf hcn hfu hws hcl hTP he0 hcb hlo hleg hwl
    obtain ⟨fu, rfl⟩ : ∃ fu, fuel = fu + 1 := ⟨fuel - 1, by omega⟩
    obtain ⟨fv, rfl⟩ : ∃ fv, fu = fv + 1 := ⟨fu - 1, by omega⟩
    have hzt := h.2.2.1
    have hl := h.2.1
    have hwf := h.2.2.2.2.1
    have hI : q_u2 I 14 1 (nI t) = I := q_u2_id _ _ _ ha
    have hab : b + 66 < a ∧ a + 8 < n := by
      obtain ⟨-, -, -, fm, fd, fs, c4, -⟩ := hcb
      exact ⟨c4.1, c4.2.1⟩
    have hlo' : ∀ k K, L[k]? = some K → ∃ x, Z 9 k = some x ∧ q_CKd b n D x K := fun k K hK => by
      obtain ⟨x, e1, e2⟩ := hlo k K hK
      exact ⟨x, e1, q_CKd_mo e2 (by omega) (fun _ _ _ => rfl)⟩
    have g1 : ¬ l.length < cn := by omega
    have one0 : ¬ (1 : Int32) = 0 := by decide
    have c2 := q_hasFault (κ := κ) (b := b) (I := I) (R := R) (X := X) (Y := Y) (Z := Z) (M := M) (O := O) (D := D) (s := s)
    have h2 : (X 4 t = (2 : Int32)) ↔ (q_tok l t).1 = 2 := q_TC_is (c := 2) h (by omega) (by decide)
    have c3 := q_isAtName (κ := κ) (b := b) (R := R) (Z := Z) (M := M) (O := O) (D := D) (s := s) h ha (by omega)
    have c4 := q_isAt (κ := κ) (b := b) (R := R) (Z := Z) (M := M) (O := O) (D := D) (s := s) (c := 124) h ha (by omega)
    have c5 := q_isAt (κ := κ) (b := b) (R := R) (Z := Z) (M := M) (O := O) (D := D) (s := s) (c := 59) h ha (by omega)
    have hfl := fun k => q_fail (κ := κ) (b := b) (R := R) (X := X) (Y := Y) (Z := Z) (M := M) (O := O) (D := D) (s := s) (k := k) ha
    have hftf : ∀ k p, q_ft I k p 14 2 = k ∧ q_ft I k p 14 3 = p ∧ q_ft I k p 2 6 = nI l.length := fun k p => ⟨by simp (disch := first | rfl | omega | decide | exact Nat.le_of_ble_eq_true rfl) only [q_u2_s, q_u1_n, q_u1_s], by simp (disch := first | rfl | omega | decide | exact Nat.le_of_ble_eq_true rfl) only [q_u2_s, q_u1_s], by simp (disch := first | rfl | omega | decide | exact Nat.le_of_ble_eq_true rfl) only [q_u2_n]; exact h.1⟩
    have hftr : ∀ k p, ∀ j, j ≠ 14 → j ≠ 19 → q_ft I k p j = I j := fun k p j j1 _ => by simp only [q_ft, q_u2_n _ _ _ j1]
    unfold q_pb
    by_cases hy2 : (q_tok l t).1 = 2
    · rw [if_pos hy2]
      have hlt := q_tok_lt (l := l) (t := t) (by omega)
      obtain ⟨w1, w2, w3, -⟩ := hwf t _ (q_tok_s hlt)
      have c6 := q_hasOnlyBits (κ := κ) (b := b) (R := R) (Z := Z) (M := M) (O := O) (D := D) (s := s) h hlt
      have e1 := q_TC_st h hlt
      by_cases hob : q_ob B (q_tok l t) = true
      · rw [if_pos hob]
        have hbig : c.length + ((q_tok l t).2.2.1 - (q_tok l t).2.1) < 1000000 := by omega
        obtain ⟨I1, D1, r1, r2, r3, r4⟩ := q_readDigits_43 (κ := κ) (M := M) (O := O) (s := s) hR hz hws hlt ((q_tok l t).2.2.1 - (q_tok l t).2.1) q_fu (q_tok l t).2.1 I Y D c h ha h82 (by omega) (Nat.le_refl _) (by unfold q_fu; omega) hob hbig hcb
        have step : F_X0_readBits_22 κ (fv + 1 + 1) (some (b + 19)) 1 (nI cn) (q_H b (I, R, X, Y, Z) M O D, s) = F_X0_readBits_22 κ (fv + 1) (some (b + 19)) 1 (nI (cn + 1)) (q_H b (q_u2 I1 14 1 (nI (t + 1)), R, X, Y, Z) M O D1, s) := by
          rw [F_X0_readBits_22]
          simp (disch := first | rfl | omega | decide | exact Nat.le_of_ble_eq_true rfl) only [↓q_br, q_rt, q_rz, q_gd, q_ca, ↓reduceIte, F_X0_readBits_22B, F_X0_readBits_141, F_X0_readDigits, ↓q_gA_19_0, ↓q_gA_19_1, ↓q_gA_2_1, ↓q_gA_2_2, ↓q_gI_14_1, ↓q_gI_2_6, ↓q_is_14, ↓q_is_19, ↓q_is_2, ↓q_lI_4, ↓q_lI_5, ↓q_gI_2_6, ↓q_gI_14_1, ↓q_is_14, ↓q_is_19, ↓q_is_2, ↓q_gA_2_1, ↓q_lI_4, h.1, nI_ltI, g1, one0, c2, hf, q_b_0, decide_true, Bool.not_true, not_true_eq_false, ha, h2, hy2, c6, hob, Bool.true_eq_false, not_false_eq_true, ↓q_gA_2_2, ↓q_lI_5, e1, r1, nI_1]
        have hI14 : q_u2 I1 14 1 (nI (t + 1)) 14 2 = 0 := by rw [q_u2_s, q_u1_n _ _ (by decide), r2 14 (by decide), hf]
        have fr : ∀ j, j ≠ 14 → j ≠ 19 → q_u2 I1 14 1 (nI (t + 1)) j = I j := fun j j1 j2 => by rw [q_u2_n _ _ _ j1, r2 j j2]
        obtain ⟨I', Y', D', y1, y2, y3, y4, y5⟩ := ih (fv + 1) (cn + 1) (t + 1) (q_u2 I1 14 1 (nI (t + 1))) Y D1 ws (c ++ q_dl B ((q_tok l t).2.2.1 - (q_tok l t).2.1) (q_tok l t).2.1) (q_tok l t).2.2.1 (q_TC_I h (by rw [fr 2 (by decide) (by decide)])) (by rw [q_u2_s, q_u1_s]) hI14 (by rw [fr 8 (by decide) (by decide), h82]) (by omega) (by omega) (by omega) (by omega) hws (by rw [List.length_append, q_dl_len]; have := hTP t (Nat.le_refl _) hlt; omega) (q_TP_next hwf (Nat.le_refl _)) (by omega) r3 (fun k K hK => by
            obtain ⟨x, e1, e2⟩ := hlo k K hK
            exact ⟨x, e1, q_CKd_mo e2 (Nat.le_refl _) (fun y _ hy => r4 y (by omega) (by omega) (by omega))⟩) (by rw [← List.append_assoc]; exact q_leg_d hleg _ _) hwl
        refine ⟨I', Y', D', by rw [step, y1], fun j j1 j2 => by rw [y2 j j1 j2, fr j j1 j2], y3, fun x hx => by rw [y4 x hx, r4 x (by omega) (by omega) (by omega)], ?_⟩
        cases hq : q_pb B l L os z f ws (c ++ q_dl B ((q_tok l t).2.2.1 - (q_tok l t).2.1) (q_tok l t).2.1) (t + 1) with
        | inl e => obtain ⟨k, p⟩ := e; rw [hq] at y5; exact y5
        | inr e =>
          obtain ⟨ws', t'⟩ := e
          rw [hq] at y5
          obtain ⟨x1, x2, x3, x4, x5⟩ := y5
          exact ⟨x1, x2, by rw [x3, q_u2_s, q_u1_n _ _ (by decide), r2 14 (by decide)], by omega, x5⟩
      · rw [if_neg hob]
        have hob' : q_ob B (q_tok l t) = false := by simpa using hob
        have i3 : nI 3 = 3 := rfl
        refine ⟨q_ft I 3 (nI t), Y, D, ?_, hftr _ _, fun _ _ => rfl, fun _ _ => rfl, by rw [(hftf 3 (nI t)).1]; rfl, (hftf 3 (nI t)).2.1, by decide, by decide⟩
        have step : F_X0_readBits_22 κ (fv + 1 + 1) (some (b + 19)) 1 (nI cn) (q_H b (I, R, X, Y, Z) M O D, s) = F_X0_readBits_22 κ (fv + 1) (some (b + 19)) 1 (nI (cn + 1)) (q_H b (q_ft I 3 (nI t), R, X, Y, Z) M O D, s) := by
          rw [F_X0_readBits_22]
          simp (disch := first | rfl | omega | decide | exact Nat.le_of_ble_eq_true rfl) only [↓q_br, q_rt, q_rz, q_gd, q_ca, ↓reduceIte, F_X0_readBits_22B, F_X0_readBits_141, F_X0_readDigits, ↓q_gA_19_0, ↓q_gA_19_1, ↓q_gA_2_1, ↓q_gA_2_2, ↓q_gI_14_1, ↓q_gI_2_6, ↓q_is_14, ↓q_is_19, ↓q_is_2, ↓q_lI_4, ↓q_lI_5, ↓q_gI_2_6, ↓q_gI_14_1, ↓q_is_14, ↓q_is_19, ↓q_is_2, ↓q_gA_2_1, ↓q_lI_4, h.1, nI_ltI, g1, one0, c2, hf, q_b_0, decide_true, Bool.not_true, not_true_eq_false, ha, h2, hy2, c6, hob', hfl, nI_1]
        rw [step, q_rb_end (hftf 3 (nI t)).2.2 (Or.inr (by rw [(hftf 3 (nI t)).1]; decide))]
    · rw [if_neg hy2]
      by_cases hy1 : (q_tok l t).1 = 1
      · rw [if_pos hy1]
        have hlt := q_tok_lt (l := l) (t := t) (by omega)
        have step : ∀ I1 Y1 D1, F_X0_readPiece κ (some (b + 19)) (q_H b (I, R, X, Y, Z) M O D, s) = some (.inl (), (q_H b (I1, R, X, Y1, Z) M O D1, s)) → F_X0_readBits_22 κ (fv + 1 + 1) (some (b + 19)) 1 (nI cn) (q_H b (I, R, X, Y, Z) M O D, s) = F_X0_readBits_22 κ (fv + 1) (some (b + 19)) 1 (nI (cn + 1)) (q_H b (I1, R, X, Y1, Z) M O D1, s) := by
          intro I1 Y1 D1 hr
          have n12 : ¬ (1 : Nat) = 2 := by decide
          rw [F_X0_readBits_22]
          simp (disch := first | rfl | omega | decide | exact Nat.le_of_ble_eq_true rfl) only [↓q_br, q_rt, q_rz, q_gd, q_ca, ↓reduceIte, F_X0_readBits_22B, F_X0_readBits_141, ↓q_gA_19_0, ↓q_gA_19_1, ↓q_gA_2_1, ↓q_gI_14_1, ↓q_gI_2_6, ↓q_is_14, ↓q_is_19, ↓q_lI_4, ↓q_gI_2_6, ↓q_gI_14_1, ↓q_is_14, ↓q_is_19, ↓q_gA_2_1, ↓q_lI_4, h.1, nI_ltI, g1, one0, c2, hf, q_b_0, decide_true, Bool.not_true, not_true_eq_false, ha, h2, hy2, not_false_eq_true, c3, hy1, n12, Bool.true_eq_false, hr, nI_1]
        rcases q_readPiece (κ := κ) (M := M) (O := O) (s := s) h ha hf h82 hy1 hR hz hws (by omega) hcb hlo' hos with ⟨hq, hr⟩ | ⟨o, hq, hol, hr⟩
        · rw [hq]
          rw [hI] at hr
          refine ⟨q_ft I 2 (nI t), Y, D, ?_, hftr _ _, fun _ _ => rfl, fun _ _ => rfl, by rw [(hftf 2 (nI t)).1]; rfl, (hftf 2 (nI t)).2.1, by decide, by decide⟩
          rw [step _ _ _ hr, q_rb_end (hftf 2 (nI t)).2.2 (Or.inr (by rw [(hftf 2 (nI t)).1]; decide))]
        · rw [hq]
          simp only
          cases hp : q_pc l (q_kb L os o) (t + 1) with
          | inl e =>
            obtain ⟨k, p⟩ := e
            rw [hp] at hr
            obtain ⟨r1, r2, r3⟩ := hr
            have k2 : q_ft (q_u2 I 14 1 (nI p)) (nI k) (nI p) 14 2 = nI k := by simp (disch := first | rfl | omega | decide | exact Nat.le_of_ble_eq_true rfl) only [q_u2_s, q_u1_n, q_u1_s]
            have k3 : q_ft (q_u2 I 14 1 (nI p)) (nI k) (nI p) 14 3 = nI p := by simp (disch := first | rfl | omega | decide | exact Nat.le_of_ble_eq_true rfl) only [q_u2_s, q_u1_s]
            have k4 : q_ft (q_u2 I 14 1 (nI p)) (nI k) (nI p) 2 6 = nI l.length := by simp (disch := first | rfl | omega | decide | exact Nat.le_of_ble_eq_true rfl) only [q_u2_n]; exact h.1
            refine ⟨_, Y, D, ?_, fun j j1 _ => by simp only [q_ft, q_u2_n _ _ _ j1], fun _ _ => rfl, fun _ _ => rfl, k2, k3, r2, by omega⟩
            rw [step _ _ _ r1, q_rb_end k4 (Or.inr (by rw [k2]; exact nI_ne0 (by omega) (by omega)))]
          | inr e =>
            obtain ⟨hi, lo, t'⟩ := e
            rw [hp] at hr
            obtain ⟨I1, Y1, D1, r1, r2, r3, r4, r5, r6, r7, r8, r9, r10⟩ := hr
            have ha1 : I1 14 1 = nI t' := by rw [r3, q_u2_s, q_u1_s]
            have hf1 : I1 14 2 = 0 := by rw [r3, q_u2_s, q_u1_n _ _ (by decide), hf]
            have hb32 : q_kb L os o ≤ 32 := by
              obtain ⟨-, -, -, fm, fd, fs, c4', -⟩ := hcb
              obtain ⟨fk, ka, x0, x1, x2, x3, x4, o1, o2, o3, o4, o5⟩ := q_op_kind c4' rfl hlo' hol
              exact o5
            have hTC1 : q_TC B l zt I1 X Y1 := by
              refine ⟨by rw [r2 2 (by decide) (by decide)]; exact h.1, h.2.1, h.2.2.1, ?_, h.2.2.2.2⟩
              unfold q_CK
              rw [r4 7 (by decide)]
              exact h.2.2.2.1
            obtain ⟨I', Y', D', y1, y2, y3, y4, y5⟩ := ih (fv + 1) (cn + 1) t' I1 Y1 D1 ws (c ++ q_pl o lo (hi + 1 - lo)) e0 hTC1 ha1 hf1 (by rw [r2 8 (by decide) (by decide), h82]) r10 (by omega) (by omega) (by omega) hws (by rw [List.length_append, q_pl_len]; omega) (fun t'' q1 q2 => hTP t'' (by omega) q2) he0 r5 (fun k K hK => by
                obtain ⟨x, e1, e2⟩ := hlo k K hK
                exact ⟨x, e1, q_CKd_mo e2 (Nat.le_refl _) (fun y _ hy => r6 y (by omega))⟩) (by rw [← List.append_assoc]; exact q_leg_p hleg hol _ (by omega)) hwl
            refine ⟨I', Y', D', by rw [step _ _ _ r1, y1], fun j j1 j2 => by rw [y2 j j1 j2, r2 j j1 j2], fun j hj => by rw [y3 j hj, r4 j hj], fun x hx => by rw [y4 x hx, r6 x (by omega)], ?_⟩
            simp only
            cases hq2 : q_pb B l L os z f ws (c ++ q_pl o lo (hi + 1 - lo)) t' with
            | inl e => obtain ⟨k, p⟩ := e; rw [hq2] at y5; exact y5
            | inr e =>
              obtain ⟨ws', t2⟩ := e
              rw [hq2] at y5
              obtain ⟨x1, x2, x3, x4, x5⟩ := y5
              exact ⟨x1, x2, by rw [x3, r3, q_u2_s, q_u1_n _ _ (by decide)], by omega, x5⟩
      · rw [if_neg hy1]
        have w3 : ∃ v0 v1 v2 v3 v4 v5 v6 v7 v8 v10, b + 66 < a ∧ D a = some (.inr (.inl (4, [v0, v1, v2, v3, v4, v5, v6, v7, v8, .int (nI ws.length), v10]))) := by
          obtain ⟨-, -, -, fm, fd, fs, c4', -⟩ := hcb
          exact ⟨_, _, _, _, _, _, _, _, _, _, c4'.1, c4'.2.2.1⟩
        obtain ⟨v0, v1, v2, v3, v4, v5, v6, v7, v8, v10, w3⟩ := w3
        have hfil : I 19 4 = nI c.length := hcb.1
        have hcz : (nI c.length = nI z) ↔ c.length = z := nI_eq (by omega) (by omega)
        by_cases hs124 : q_sgn l t 124 = true
        · rw [if_pos hs124]
          have hlt := q_tok_lt (l := l) (t := t) (by have := (of_decide_eq_true hs124).1; omega)
          have step : ∀ I1 D1, F_X0_closeWord κ (some (b + 19)) 1 (q_H b (I, R, X, Y, Z) M O D, s) = some (.inl (), (q_H b (I1, R, X, Y, Z) M O D1, s)) → F_X0_readBits_22 κ (fv + 1 + 1) (some (b + 19)) 1 (nI cn) (q_H b (I, R, X, Y, Z) M O D, s) = F_X0_readBits_22 κ (fv + 1) (some (b + 19)) 1 (nI (cn + 1)) (q_H b (I1, R, X, Y, Z) M O D1, s) := by
            intro I1 D1 hr
            rw [F_X0_readBits_22]
            simp (disch := first | rfl | omega | decide | exact Nat.le_of_ble_eq_true rfl) only [↓q_br, q_rt, q_rz, q_gd, q_ca, ↓reduceIte, F_X0_readBits_22B, F_X0_readBits_141, ↓q_gA_19_0, ↓q_gA_19_1, ↓q_gA_2_1, ↓q_gI_14_1, ↓q_gI_2_6, ↓q_is_14, ↓q_is_19, ↓q_lI_4, ↓q_gI_2_6, ↓q_gI_14_1, ↓q_is_14, ↓q_is_19, ↓q_gA_2_1, ↓q_lI_4, h.1, nI_ltI, g1, one0, c2, hf, q_b_0, decide_true, decide_false, Bool.not_true, not_true_eq_false, ha, h2, hy2, not_false_eq_true, c3, hy1, c4, hs124, Bool.true_eq_false, hr, nI_1]
          have hw3 : (nI ws.length + 1 = (4 : Int32)) ↔ ws.length = 3 := by
            rw [nI_1]
            have := nI_eq (a := ws.length + 1) (b := 4) (by omega) (by decide)
            exact this.trans ⟨fun h => by omega, fun h => by omega⟩
          by_cases h3 : ws.length = 3
          · rw [if_pos h3]
            refine ⟨q_ft I 3 (nI t), Y, D, ?_, hftr _ _, fun _ _ => rfl, fun _ _ => rfl, by rw [(hftf 3 (nI t)).1]; rfl, (hftf 3 (nI t)).2.1, by decide, by decide⟩
            have hw3' : (nI ws.length + 1 = (4 : Int32)) = True := eq_true (hw3.mpr h3)
            rw [step (q_ft I 3 (nI t)) D (by simp (disch := first | rfl | omega | decide | exact Nat.le_of_ble_eq_true rfl) only [↓q_br, q_rt, q_rz, q_gd, q_ca, ↓reduceIte, F_X0_closeWord, F_X0_closeWord_109, ↓q_gA_19_0, ↓q_gA_19_3, ↓q_is_14, one0, hR, qd_I w3 (k := 9) (v := nI ws.length) rfl, hw3', not_true_eq_false, ↓q_is_14, hfl]), q_rb_end (hftf 3 (nI t)).2.2 (Or.inr (by rw [(hftf 3 (nI t)).1]; decide))]
          · rw [if_neg h3]
            by_cases hc : c.length = z
            · rw [if_pos hc]
              obtain ⟨D1, r1, r2, r3⟩ := q_close78 (κ := κ) (X := X) (M := M) (O := O) (s := s) hR ha hcb hc
              have hcz' : (nI c.length = nI z) = True := eq_true (hcz.mpr hc)
              have hfl2 : (ws ++ [c]).flatten ++ [] = ws.flatten ++ c := q_flat_add ws c
              obtain ⟨I', Y', D', y1, y2, y3, y4, y5⟩ := ih (fv + 1) (cn + 1) (t + 1) (q_u2 (q_u2 I 19 4 0) 14 1 (nI (t + 1))) Y D1 (ws ++ [c]) [] e0 (q_TC_I h (by rw [q_u2_n _ _ _ (by decide), q_u2_n _ _ _ (by decide)])) (by rw [q_u2_s, q_u1_s]) (by rw [q_u2_s, q_u1_n _ _ (by decide), q_u2_n _ _ _ (by decide), hf]) (by rw [q_u2_n _ _ _ (by decide), q_u2_n _ _ _ (by decide), h82]) (by omega) (by omega) (by omega) (by omega) (by simp; omega) (by simp) (fun t'' q1 q2 => hTP t'' (by omega) q2) he0 r2 (fun k K hK => by
                  obtain ⟨x, e1, e2⟩ := hlo k K hK
                  exact ⟨x, e1, q_CKd_mo e2 (Nat.le_refl _) (fun y _ hy => r3 y (by omega))⟩) (by rw [hfl2]; exact hleg) (fun w hw => by
                    rcases List.mem_append.mp hw with h1 | h1
                    · exact hwl w h1
                    · simp only [List.mem_singleton] at h1; rw [h1, hc])
              refine ⟨I', Y', D', ?_, fun j j1 j2 => by rw [y2 j j1 j2, q_u2_n _ _ _ j1, q_u2_n _ _ _ j2], y3, fun x hx => by rw [y4 x hx, r3 x (by omega)], ?_⟩
              · rw [step (q_u2 (q_u2 I 19 4 0) 14 1 (nI (t + 1))) D1 (by simp (disch := first | rfl | omega | decide | exact Nat.le_of_ble_eq_true rfl) only [↓q_br, q_rt, q_rz, q_gd, q_ca, ↓reduceIte, F_X0_closeWord, F_X0_closeWord_29, ↓q_gA_19_0, ↓q_gA_19_2, ↓q_gA_19_3, ↓q_gI_19_4, ↓q_gI_8_2, ↓q_is_14, ↓q_is_19, one0, hR, qd_I w3 (k := 9) (v := nI ws.length) rfl, hw3, h3, not_false_eq_true, hfil, ↓q_gI_8_2, h82, hcz', r1]), y1]
              · cases hq2 : q_pb B l L os z f (ws ++ [c]) [] (t + 1) with
                | inl e => obtain ⟨k, p⟩ := e; rw [hq2] at y5; exact y5
                | inr e =>
                  obtain ⟨ws', t2⟩ := e
                  rw [hq2] at y5
                  obtain ⟨x1, x2, x3, x4, x5⟩ := y5
                  exact ⟨x1, x2, by rw [x3, q_u2_s, q_u1_n _ _ (by decide), q_u2_n _ _ _ (by decide)], by omega, x5⟩
            · rw [if_neg hc]
              refine ⟨q_ft I 4 (nI t), Y, D, ?_, hftr _ _, fun _ _ => rfl, fun _ _ => rfl, by rw [(hftf 4 (nI t)).1]; rfl, (hftf 4 (nI t)).2.1, by decide, by decide⟩
              rw [step (q_ft I 4 (nI t)) D (by simp (disch := first | rfl | omega | decide | exact Nat.le_of_ble_eq_true rfl) only [↓q_br, q_rt, q_rz, q_gd, q_ca, ↓reduceIte, F_X0_closeWord, F_X0_closeWord_29, F_X0_closeWord_109, ↓q_gA_19_0, ↓q_gA_19_2, ↓q_gA_19_3, ↓q_gI_19_4, ↓q_gI_8_2, ↓q_is_14, ↓q_is_19, one0, hR, qd_I w3 (k := 9) (v := nI ws.length) rfl, hw3, h3, not_false_eq_true, hfil, ↓q_gI_8_2, h82, hcz, hc, ↓q_is_14, hfl]), q_rb_end (hftf 4 (nI t)).2.2 (Or.inr (by rw [(hftf 4 (nI t)).1]; decide))]
        · rw [if_neg hs124]
          have hs124' : q_sgn l t 124 = false := by simpa using hs124
          by_cases hs59 : q_sgn l t 59 = true
          · rw [if_pos hs59]
            have hlt := q_tok_lt (l := l) (t := t) (by have := (of_decide_eq_true hs59).1; omega)
            have step : ∀ I1 D1, F_X0_closeWord κ (some (b + 19)) 0 (q_H b (I, R, X, Y, Z) M O D, s) = some (.inl (), (q_H b (I1, R, X, Y, Z) M O D1, s)) → F_X0_readBits_22 κ (fv + 1 + 1) (some (b + 19)) 1 (nI cn) (q_H b (I, R, X, Y, Z) M O D, s) = F_X0_readBits_22 κ (fv + 1) (some (b + 19)) 0 (nI (cn + 1)) (q_H b (I1, R, X, Y, Z) M O D1, s) := by
              intro I1 D1 hr
              rw [F_X0_readBits_22]
              simp (disch := first | rfl | omega | decide | exact Nat.le_of_ble_eq_true rfl) only [↓q_br, q_rt, q_rz, q_gd, q_ca, ↓reduceIte, F_X0_readBits_22B, F_X0_readBits_141, ↓q_gA_19_0, ↓q_gA_19_1, ↓q_gA_2_1, ↓q_gI_14_1, ↓q_gI_2_6, ↓q_is_14, ↓q_is_19, ↓q_lI_4, ↓q_gI_2_6, ↓q_gI_14_1, ↓q_is_14, ↓q_is_19, ↓q_gA_2_1, ↓q_lI_4, h.1, nI_ltI, g1, one0, c2, hf, q_b_0, decide_true, decide_false, Bool.not_true, not_true_eq_false, ha, h2, hy2, not_false_eq_true, c3, hy1, c4, hs124', c5, hs59, Bool.true_eq_false, hr, nI_1]
            have z0 : (0 : Int32) = 0 := rfl
            by_cases hc : c.length = z
            · rw [if_pos hc]
              have hcz' : (nI c.length = nI z) = True := eq_true (hcz.mpr hc)
              have c6 := q_hasEach (κ := κ) (X := X) (M := M) (O := O) (s := s) hR hcb hlo' hos hleg
              by_cases hon : q_once (q_kb L os) os.length (ws.flatten ++ c) = true
              · rw [if_pos hon]
                obtain ⟨D1, r1, r2, r3⟩ := q_close78 (κ := κ) (X := X) (M := M) (O := O) (s := s) hR ha hcb hc
                refine ⟨q_u2 (q_u2 I 19 4 0) 14 1 (nI (t + 1)), Y, D1, ?_, fun j j1 j2 => by rw [q_u2_n _ _ _ j1, q_u2_n _ _ _ j2], fun _ _ => rfl, fun x hx => r3 x (by omega), by rw [q_u2_s, q_u1_s], by rw [q_u2_s, q_u1_n _ _ (by decide), q_u2_n _ _ _ (by decide), hf], by rw [q_u2_s, q_u1_n _ _ (by decide), q_u2_n _ _ _ (by decide)], Nat.le_refl _, hlt, hs59, by simp; omega, by simp, fun w hw => ?_, ?_, r2.2.2.2⟩
                · rw [step (q_u2 (q_u2 I 19 4 0) 14 1 (nI (t + 1))) D1 (by simp (disch := first | rfl | omega | decide | exact Nat.le_of_ble_eq_true rfl) only [↓q_br, q_rt, q_rz, q_gd, q_ca, ↓reduceIte, F_X0_closeWord, F_X0_closeWord_29, ↓q_gA_19_0, ↓q_gA_19_2, ↓q_gA_19_3, ↓q_gI_19_4, ↓q_gI_8_2, ↓q_is_14, ↓q_is_19, hfil, ↓q_gI_8_2, h82, hcz', not_true_eq_false, ↓q_is_19, c6, hon, q_b_0, Bool.true_eq_false, not_false_eq_true, r1]), q_rb_end (l := l) (by rw [q_u2_n _ _ _ (by decide), q_u2_n _ _ _ (by decide)]; exact h.1) (Or.inl rfl)]
                · rcases List.mem_append.mp hw with h1 | h1
                  · exact hwl w h1
                  · simp only [List.mem_singleton] at h1; rw [h1, hc]
                · have hfl2 := q_flat_add ws c
                  rw [List.append_nil] at hfl2
                  rw [hfl2]
                  exact hleg
              · rw [if_neg hon]
                have hon' : q_once (q_kb L os) os.length (ws.flatten ++ c) = false := by simpa using hon
                refine ⟨q_ft I 5 (nI t), Y, D, ?_, hftr _ _, fun _ _ => rfl, fun _ _ => rfl, by rw [(hftf 5 (nI t)).1]; rfl, (hftf 5 (nI t)).2.1, by decide, by decide⟩
                rw [step (q_ft I 5 (nI t)) D (by simp (disch := first | rfl | omega | decide | exact Nat.le_of_ble_eq_true rfl) only [↓q_br, q_rt, q_rz, q_gd, q_ca, ↓reduceIte, F_X0_closeWord, F_X0_closeWord_29, F_X0_closeWord_109, ↓q_gA_19_0, ↓q_gA_19_2, ↓q_gA_19_3, ↓q_gI_19_4, ↓q_gI_8_2, ↓q_is_14, ↓q_is_19, hfil, ↓q_gI_8_2, h82, hcz', not_true_eq_false, ↓q_is_19, c6, hon', q_b_0, ↓q_is_14, hfl]), q_rb_end (hftf 5 (nI t)).2.2 (Or.inr (by rw [(hftf 5 (nI t)).1]; decide))]
            · rw [if_neg hc]
              refine ⟨q_ft I 4 (nI t), Y, D, ?_, hftr _ _, fun _ _ => rfl, fun _ _ => rfl, by rw [(hftf 4 (nI t)).1]; rfl, (hftf 4 (nI t)).2.1, by decide, by decide⟩
              rw [step (q_ft I 4 (nI t)) D (by simp (disch := first | rfl | omega | decide | exact Nat.le_of_ble_eq_true rfl) only [↓q_br, q_rt, q_rz, q_gd, q_ca, ↓reduceIte, F_X0_closeWord, F_X0_closeWord_29, F_X0_closeWord_109, ↓q_gA_19_0, ↓q_gA_19_2, ↓q_gA_19_3, ↓q_gI_19_4, ↓q_gI_8_2, ↓q_is_14, ↓q_is_19, hfil, ↓q_gI_8_2, h82, hcz, hc, ↓q_is_14, hfl]), q_rb_end (hftf 4 (nI t)).2.2 (Or.inr (by rw [(hftf 4 (nI t)).1]; decide))]
          · rw [if_neg hs59]
            have hs59' : q_sgn l t 59 = false := by simpa using hs59
            refine ⟨q_ft I 1 (nI t), Y, D, ?_, hftr _ _, fun _ _ => rfl, fun _ _ => rfl, by rw [(hftf 1 (nI t)).1]; rfl, (hftf 1 (nI t)).2.1, by decide, by decide⟩
            have step : F_X0_readBits_22 κ (fv + 1 + 1) (some (b + 19)) 1 (nI cn) (q_H b (I, R, X, Y, Z) M O D, s) = F_X0_readBits_22 κ (fv + 1) (some (b + 19)) 1 (nI (cn + 1)) (q_H b (q_ft I 1 (nI t), R, X, Y, Z) M O D, s) := by
              rw [F_X0_readBits_22]
              simp (disch := first | rfl | omega | decide | exact Nat.le_of_ble_eq_true rfl) only [↓q_br, q_rt, q_rz, q_gd, q_ca, ↓reduceIte, F_X0_readBits_22B, F_X0_readBits_141, ↓q_gA_19_0, ↓q_gA_19_1, ↓q_gA_2_1, ↓q_gI_14_1, ↓q_gI_2_6, ↓q_is_14, ↓q_is_19, ↓q_lI_4, ↓q_gI_2_6, ↓q_gI_14_1, ↓q_is_14, ↓q_is_19, ↓q_gA_2_1, ↓q_lI_4, h.1, nI_ltI, g1, one0, c2, hf, q_b_0, decide_true, decide_false, Bool.not_true, not_true_eq_false, ha, h2, hy2, not_false_eq_true, c3, hy1, c4, hs124', c5, hs59', hfl, nI_1]
            rw [step, q_rb_end (hftf 1 (nI t)).2.2 (Or.inr (by rw [(hftf 1 (nI t)).1]; decide))]
end QBG
