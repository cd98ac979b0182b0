/-- round after round, until all fits -/
def q_set (l : List q_Tok) (Js : List q_Ins) (fit : (Nat → Nat) → q_Lin → Nat → Bool) (nf : q_Lin → Nat → Option Nat) (Ls : List q_Lin) : Nat → Nat → (Nat → Nat) → (Nat → Nat) → q_Out ((Nat → Nat) × (Nat → Nat) × Nat)
  | 0, _, _, _ => .inl (0, 0)
  | f + 1, rd, fo, ad => match q_ad l (q_wds Js fo) Ls 0 ad with
    | .inl e => .inl e
    | .inr ad' => match q_mm (fit ad') nf Ls fo false with
      | .inl e => .inl e
      | .inr y => if y.2 = true then q_set l Js fit nf Ls f (rd + 1) y.1 ad' else .inr (y.1, ad', rd)
theorem q_set_f {l : List q_Tok} {Js : List q_Ins} {fit : (Nat → Nat) → q_Lin → Nat → Bool} {nf : q_Lin → Nat → Option Nat} {Ls : List q_Lin} (h3 : ∀ x ∈ Ls, q_sS x = 3 → q_vn l (q_sH x + 2) ≤ 4096) (h0 : ∀ x ∈ Ls, ¬ q_rea x = true → q_sW x = 0) : ∀ f rd fo ad, q_set l Js fit nf (Ls.filter q_rea) f rd fo ad = q_set l Js fit nf Ls f rd fo ad := by
  intro f
  induction f with
  | zero => intro rd fo ad; rfl
  | succ f ih =>
    intro rd fo ad
    rw [q_set, q_set, q_ad_f Ls 0 ad (by decide) h3 (fun x hx hr => by unfold q_wds; rw [if_neg (by rw [q_rea_0 hr]; decide)]; exact h0 x hx hr)]
    split
    · rfl
    · rw [q_mm_f]
      split
      · rfl
      · split
        · exact ih _ _ _
        · rfl
theorem q_ad_k {l : List q_Tok} {wd : q_Lin → Nat} : ∀ (Ls : List q_Lin) (A : Nat) (ad : Nat → Nat) e, q_ad l wd Ls A ad = .inl e → e.1 = 3 := by
  intro Ls
  induction Ls with
  | nil => intro A ad e h; cases h
  | cons x r ih =>
    intro A ad e h
    rw [q_ad] at h
    split at h
    · exact ih _ _ _ h
    · split at h
      · exact ih _ _ _ h
      · cases h; rfl
theorem q_mm_k {fit : q_Lin → Nat → Bool} {nf : q_Lin → Nat → Option Nat} : ∀ (Ls : List q_Lin) (fo : Nat → Nat) (mv : Bool) e, q_mm fit nf Ls fo mv = .inl e → e.1 = 7 := by
  intro Ls
  induction Ls with
  | nil => intro fo mv e h; cases h
  | cons x r ih =>
    intro fo mv e h
    rw [q_mm] at h
    split at h
    · split at h
      · cases h; rfl
      · exact ih _ _ _ h
    · exact ih _ _ _ h
theorem q_mm_p {fit : q_Lin → Nat → Bool} {nf : q_Lin → Nat → Option Nat} (hnf : ∀ x i j, nf x i = some j → i ≤ j) : ∀ (Ls : List q_Lin) (fo : Nat → Nat) (mv : Bool) y, q_mm fit nf Ls fo mv = .inr y → (∀ k, fo k ≤ y.1 k) ∧ (mv = false → y.2 = true → ∃ x ∈ Ls, q_sS x = 1 ∧ fo (q_sF x) < y.1 (q_sF x)) := by
  intro Ls
  induction Ls with
  | nil =>
    intro fo mv y h
    cases h
    exact ⟨fun _ => Nat.le_refl _, fun h1 h2 => by rw [h1] at h2; cases h2⟩
  | cons x r ih =>
    intro fo mv y h
    rw [q_mm] at h
    split at h
    · rename_i c1
      cases hj : nf x (fo (q_sF x) + 1) with
      | none => rw [hj] at h; cases h
      | some j =>
        rw [hj] at h
        have jl := hnf _ _ _ hj
        obtain ⟨g1, -⟩ := ih _ _ _ h
        refine ⟨fun k => ?_, fun _ _ => ⟨x, List.mem_cons_self, c1.1, ?_⟩⟩
        · have := g1 k
          by_cases hk : k = q_sF x
          · rw [hk, q_u1_s] at this
            rw [hk]
            omega
          · rw [q_u1_n _ _ hk] at this
            exact this
        · have := g1 (q_sF x)
          rw [q_u1_s] at this
          omega
    · obtain ⟨g1, g2⟩ := ih _ _ _ h
      refine ⟨g1, fun h1 h2 => ?_⟩
      obtain ⟨w, w1, w2⟩ := g2 h1 h2
      exact ⟨w, List.mem_cons_of_mem _ w1, w2⟩
/-- how many forms the lines have left -/
def q_pot (N : Nat) (fo : Nat → Nat) : List q_Lin → Nat
  | [] => 0
  | x :: r => (if q_sS x = 1 then N - fo (q_sF x) else 0) + q_pot N fo r
theorem q_pot_le {N : Nat} {fo fo' : Nat → Nat} (h : ∀ k, fo k ≤ fo' k) : ∀ Ls, q_pot N fo' Ls ≤ q_pot N fo Ls := by
  intro Ls
  induction Ls with
  | nil => exact Nat.le_refl _
  | cons x r ih =>
    rw [q_pot, q_pot]
    have := h (q_sF x)
    split <;> omega
theorem q_pot_lt {N : Nat} {fo fo' : Nat → Nat} (h : ∀ k, fo k ≤ fo' k) : ∀ Ls, (∃ x ∈ Ls, q_sS x = 1 ∧ fo (q_sF x) < fo' (q_sF x) ∧ fo (q_sF x) < N) → q_pot N fo' Ls < q_pot N fo Ls := by
  intro Ls
  induction Ls with
  | nil => rintro ⟨x, hx, -⟩; cases hx
  | cons x r ih =>
    rintro ⟨w, w1, w2, w3, w4⟩
    rw [q_pot, q_pot]
    have hx := h (q_sF x)
    have le := q_pot_le (N := N) h r
    rcases List.mem_cons.mp w1 with e | e
    · rw [e] at w2 w3 w4
      rw [if_pos w2, if_pos w2]
      omega
    · have := ih ⟨w, e, w2, w3, w4⟩
      split <;> omega
theorem q_pot_b {N : Nat} {fo : Nat → Nat} : ∀ Ls, q_pot N fo Ls ≤ N * Ls.length := by
  intro Ls
  induction Ls with
  | nil => exact Nat.zero_le _
  | cons x r ih =>
    rw [q_pot, List.length_cons, Nat.mul_succ]
    split <;> omega
theorem q_nfx_le {B : Nat → Int32} {l : List q_Tok} {LT : List Nat} {L : List q_Knd} {Js : List q_Ins} (x : q_Lin) (i j : Nat) (h : q_nfx B l LT L Js x i = some j) : i ≤ j := (q_fi_s _ _ _ h).1
theorem q_wds_le {B : Nat → Int32} {l : List q_Tok} {z : Nat} {Js : List q_Ins} {fo : Nat → Nat} {x : q_Lin} (hwf : ∀ i, i < l.length → (q_tok l i).1 ≤ 4) (hl : l.length ≤ 6000) (h : q_XP B l z x) (hJ : ∀ (i : Nat) J, Js[i]? = some J → J.2.2.2.length ≤ 4) : q_wds Js fo x ≤ 6100 := by
  unfold q_wds
  split
  · by_cases c : fo (q_sF x) < Js.length
    · have := hJ _ _ (q_jg_e c)
      omega
    · have e : q_jg Js (fo (q_sF x)) = q_J0 := by
        unfold q_jg
        rw [List.getD_eq_getElem?_getD, List.getElem?_eq_none (by omega)]
        rfl
      rw [e]
      exact Nat.zero_le _
  · obtain ⟨LT, t, ht, hx⟩ := h
    obtain ⟨b1, b2, b3, b4, b5, b6, b7, b8, b9, b10, b11, b12⟩ := q_ln1_b hwf hx ht
    by_cases c2 : q_sS x = 2
    · have := (b10 c2).1
      omega
    · rw [b12 c2]
      exact Nat.zero_le _
section QST
variable {κ : Nat → Nat} {b : Nat} {B : Nat → Int32} {l : List q_Tok} {zt : Nat} {I : Nat → Nat → Int32} {R : Nat → Nat → Option Nat} {X : Nat → Nat → Int32} {Y : Nat → Nat → Int64} {Z : Nat → Nat → Option Nat} {M : q_MT} {O : Nat → Int64} {s : Nat × Nat}
theorem q_CF_FO {B : Nat → Int32} {l : List q_Tok} {LT : List Nat} {L : List q_Knd} {Js : List q_Ins} {fo : Nat → Nat} {Ls : List q_Lin} {xx : Nat → q_Lx} (h : ∀ j, j < Ls.length → q_CF B l LT L Js fo (xx j)) (he : ∀ i, i < Ls.length → (xx i).1 = q_lg Ls i) : q_FO B l LT L Js Ls fo := by
  intro x hx hs
  obtain ⟨i, hi9, e⟩ := List.getElem_of_mem hx
  have e1 := he i hi9
  rw [q_lg_g hi9, e] at e1
  obtain ⟨F1, -, -, ps, F4, -⟩ := (h i hi9).1 (by rw [e1]; exact hs)
  rw [e1] at F1 F4
  exact ⟨F1, ps, F4⟩
theorem q_settle_2 {D0 : q_Mem} {n0 n z c22 c23 : Nat} {L : List q_Knd} {Js : List q_Ins} {Ls : List q_Lin} {aa : Nat → Nat} (hEn : q_Env b n0 D0 Z I L z Js) (hn0 : b + 66 < n0) (hXP : ∀ x ∈ Ls, q_XP B l z x) (hre : ∀ x ∈ Ls, q_rea x = true) (hIN : q_INC Ls) (hG : q_LG B l (q_LT Ls)) (hK : (q_LT Ls).length ≤ 6000) (hLs : Ls.length ≤ 6100) (hW : ∀ fo, ∀ x ∈ Ls, q_wds Js fo x ≤ 6100) (hT : q_TC B l zt I X Y) (h14 : I 14 2 = 0) (hYL : ∀ j, j < Ls.length → q_sS (q_lg Ls j) = 1 → q_YL B l (q_LT Ls) Y (q_lg Ls j)) : ∀ f fuel rd (fo ad : Nat → Nat) (D : q_Mem) (xx : Nat → q_Lx), q_pot Js.length fo Ls < f → f < fuel → rd + f ≤ 1000001 → q_PR κ b n0 n D I R X B l Ls aa xx c22 c23 → q_S8 n0 D0 D → (∀ j, j < Ls.length → q_CF B l (q_LT Ls) L Js fo (xx j)) →
    ∃ I' D' xx', q_PR κ b n0 n D' I' R X B l Ls aa xx' c22 c23 ∧ q_S8 n0 D0 D' ∧ (match q_set l Js (q_fit B l (q_LT Ls) L Js) (q_nfx B l (q_LT Ls) L Js) Ls f rd fo ad with
      | .inl (k, p) => F_X8_settle_2 κ fuel (some (b + 21)) (nI rd) (q_H b (I, R, X, Y, Z) M O D, s) = some (.inl 0, (q_H b (I', R, X, Y, Z) M O D', s)) ∧ q_IA I I' ∧ I' 14 2 = nI k ∧ I' 14 3 = nI p
      | .inr (fo', ad', rd') => F_X8_settle_2 κ fuel (some (b + 21)) (nI rd) (q_H b (I, R, X, Y, Z) M O D, s) = some (.inl 1, (q_H b (I', R, X, Y, Z) M O D', s)) ∧ I' = q_u2 I 21 8 (nI rd') ∧ (∀ j, j < Ls.length → q_CF B l (q_LT Ls) L Js fo' (xx' j)) ∧ (∀ j, j < Ls.length → q_xa (xx' j) = nI (ad' (q_sF (q_lg Ls j)))) ∧ rd' ≤ 1000000) := by
  intro f
  induction f with
  | zero => intro fuel rd fo ad D xx h1; omega
  | succ f ih =>
    intro fuel rd fo ad D xx h1 h2 h3 hP hS hF
    obtain ⟨g, rfl⟩ : ∃ g, fuel = g + 1 + 1 := ⟨fuel - 2, by omega⟩
    have lt : ((1000000 : Int32) < nI rd) = False := eq_false (nI_nlt (a := 1000000) (by omega) (by omega))
    have hf := q_hasFault (κ := κ) (b := b) (I := I) (R := R) (X := X) (Y := Y) (Z := Z) (M := M) (O := O) (D := D) (s := s)
    rw [h14, show (!decide ((0 : Int32) = 0)) = false from rfl] at hf
    -- the fault ends it
    have dead : ∀ (I2 : Nat → Nat → Int32) (D2 : q_Mem), ¬ I2 14 2 = 0 → F_X8_settle_2 κ (g + 1) (some (b + 21)) (nI (rd + 1)) (q_H b (I2, R, X, Y, Z) M O D2, s) = some (.inl 0, (q_H b (I2, R, X, Y, Z) M O D2, s)) := by
      intro I2 D2 hne
      have hf2 := q_hasFault (κ := κ) (b := b) (I := I2) (R := R) (X := X) (Y := Y) (Z := Z) (M := M) (O := O) (D := D2) (s := s)
      rw [decide_eq_false hne, Bool.not_false] at hf2
      rw [F_X8_settle_2]
      by_cases c : (1000000 : Int32) < nI (rd + 1)
      · have tc : ((1000000 : Int32) < nI (rd + 1)) = True := eq_true c
        simp (disch := first | rfl | omega | decide | exact Nat.le_of_ble_eq_true rfl) only [↓q_br, q_rt, q_rz, q_gd, q_ca, ↓reduceIte, F_X8_settle_2B, F_X8_settle_67, ↓q_gA_21_0, ↓q_is_14, ↓q_is_21, ↓q_pI_21_8, tc, true_or]
      · have tc : ((1000000 : Int32) < nI (rd + 1)) = False := eq_false c
        simp (disch := first | rfl | omega | decide | exact Nat.le_of_ble_eq_true rfl) only [↓q_br, q_rt, q_rz, q_gd, q_ca, ↓reduceIte, F_X8_settle_2B, F_X8_settle_67, ↓q_gA_21_0, ↓q_is_14, ↓q_is_21, ↓q_pI_21_8, ↓q_is_14, tc, hf2, q_b_0, Bool.true_eq_false, not_false_eq_true, true_or]
    obtain ⟨I1, D1, xx1, r1, r2, r3, r4, r5, r6⟩ := q_give_4 (κ := κ) (Z := Z) (M := M) (O := O) (s := s) (ad := ad) (Y := Y) hn0 hXP hre hIN hLs (hW fo) hT Ls.length q_fu 0 0 D xx (by omega) (by unfold q_fu; omega) (by decide) hP hS hF (fun j hj => by omega)
    rw [List.drop_zero] at r6
    rw [nI_0] at r5
    have ga : F_X8_giveAddresses κ (some (b + 21)) (q_H b (I, R, X, Y, Z) M O D, s) = some (.inl (), (q_H b (I1, R, X, Y, Z) M O D1, s)) := r5
    have hf1 := q_hasFault (κ := κ) (b := b) (I := I1) (R := R) (X := X) (Y := Y) (Z := Z) (M := M) (O := O) (D := D1) (s := s)
    cases had : q_ad l (q_wds Js fo) Ls 0 ad with
    | inl e =>
      rw [had] at r6
      obtain ⟨k, p⟩ := e
      have k3 : k = 3 := q_ad_k _ _ _ _ had
      have ne : ¬ I1 14 2 = 0 := by rw [r6.1, k3]; decide
      rw [decide_eq_false ne, Bool.not_false] at hf1
      have dd := dead I1 D1 ne
      have es : q_set l Js (q_fit B l (q_LT Ls) L Js) (q_nfx B l (q_LT Ls) L Js) Ls (f + 1) rd fo ad = .inl (k, p) := by rw [q_set, had]
      rw [es]
      refine ⟨I1, D1, xx1, r2, r3, ?_, r1, r6.1, r6.2⟩
      rw [F_X8_settle_2]
      simp (disch := first | rfl | omega | decide | exact Nat.le_of_ble_eq_true rfl) only [↓q_br, q_rt, q_rz, q_gd, q_ca, ↓reduceIte, F_X8_settle_2B, F_X8_settle_61, ↓q_gA_21_0, ↓q_is_14, ↓q_is_21, ↓q_pI_21_8, ↓q_is_14, ↓q_is_21, lt, hf, q_b_0, not_true_eq_false, ga, hf1, Bool.true_eq_false, not_false_eq_true, nI_1, dd]
    | inr ad1 =>
      rw [had] at r6
      obtain ⟨rI, rA⟩ := r6
      subst rI
      rw [h14, show (!decide ((0 : Int32) = 0)) = false from rfl] at hf1
      obtain ⟨I2, D2, xx2, w1, w2, w3, w4⟩ := q_move_4 (κ := κ) (M := M) (O := O) (s := s) hEn hn0 hXP hIN hG hK hLs hT hYL Ls.length q_fu 0 fo false D1 xx1 (by omega) (by unfold q_fu; omega) r2 r3 r4 rA
      rw [List.drop_zero, nI_0] at w4
      have efa : q_b false = 0 := rfl
      rw [efa] at w4
      cases hmm : q_mm (q_fit B l (q_LT Ls) L Js ad1) (q_nfx B l (q_LT Ls) L Js) Ls fo false with
      | inl e =>
        rw [hmm] at w4
        obtain ⟨k, p⟩ := e
        have k3 : k = 7 := q_mm_k _ _ _ _ hmm
        obtain ⟨x1, x2, x3⟩ := w4
        have mo : F_X8_moveMisfits κ (some (b + 21)) (q_H b (I1, R, X, Y, Z) M O D1, s) = some (.inl 1, (q_H b (I2, R, X, Y, Z) M O D2, s)) := x1
        have ne : ¬ I2 14 2 = 0 := by rw [x2, k3]; decide
        have dd := dead I2 D2 ne
        have z1 : (¬ (1 : Int32) = 0) = True := eq_true (by decide)
        have es : q_set l Js (q_fit B l (q_LT Ls) L Js) (q_nfx B l (q_LT Ls) L Js) Ls (f + 1) rd fo ad = .inl (k, p) := by
          rw [q_set, had]
          simp only [hmm]
        rw [es]
        refine ⟨I2, D2, xx2, w2, w3, ?_, w1, x2, x3⟩
        rw [F_X8_settle_2]
        simp (disch := first | rfl | omega | decide | exact Nat.le_of_ble_eq_true rfl) only [↓q_br, q_rt, q_rz, q_gd, q_ca, ↓reduceIte, F_X8_settle_2B, F_X8_settle_61, ↓q_gA_21_0, ↓q_is_14, ↓q_is_21, ↓q_pI_21_8, ↓q_is_14, ↓q_is_21, lt, hf, q_b_0, not_true_eq_false, ga, hf1, mo, z1, nI_1, dd]
      | inr y =>
        rw [hmm] at w4
        obtain ⟨fo1, mv1⟩ := y
        obtain ⟨x1, x2, x3, x4⟩ := w4
        subst x2
        have mo : F_X8_moveMisfits κ (some (b + 21)) (q_H b (I2, R, X, Y, Z) M O D1, s) = some (.inl (q_b mv1), (q_H b (I2, R, X, Y, Z) M O D2, s)) := x1
        cases hmv : mv1 with
        | true =>
          rw [hmv] at mo hmm
          obtain ⟨p1, p2⟩ := q_mm_p q_nfx_le _ _ _ _ hmm
          obtain ⟨x, xm, xs, xl⟩ := p2 rfl rfl
          have FO := q_CF_FO r4 r2.2.2.2.1
          have plt := q_pot_lt (N := Js.length) p1 Ls ⟨x, xm, xs, xl, (FO x xm xs).1⟩
          obtain ⟨I', D', xx', v1, v2, v3⟩ := ih (g + 1) (rd + 1) fo1 ad1 D2 xx2 (by simp only at plt; omega) (by omega) (by omega) w2 w3 x3
          have es : q_set l Js (q_fit B l (q_LT Ls) L Js) (q_nfx B l (q_LT Ls) L Js) Ls (f + 1) rd fo ad = q_set l Js (q_fit B l (q_LT Ls) L Js) (q_nfx B l (q_LT Ls) L Js) Ls f (rd + 1) fo1 ad1 := by
            rw [q_set, had]
            simp only [hmm, if_true]
          rw [es]
          refine ⟨I', D', xx', v1, v2, ?_⟩
          have st : F_X8_settle_2 κ (g + 1 + 1) (some (b + 21)) (nI rd) (q_H b (I2, R, X, Y, Z) M O D, s) = F_X8_settle_2 κ (g + 1) (some (b + 21)) (nI (rd + 1)) (q_H b (I2, R, X, Y, Z) M O D2, s) := by
            rw [F_X8_settle_2]
            simp (disch := first | rfl | omega | decide | exact Nat.le_of_ble_eq_true rfl) only [↓q_br, q_rt, q_rz, q_gd, q_ca, ↓reduceIte, F_X8_settle_2B, F_X8_settle_61, ↓q_gA_21_0, ↓q_is_14, ↓q_is_21, ↓q_pI_21_8, ↓q_is_14, ↓q_is_21, lt, hf, q_b_0, not_true_eq_false, ga, hf1, mo, Bool.true_eq_false, not_false_eq_true, nI_1]
          rw [st]
          exact v3
        | false =>
          rw [hmv] at mo
          obtain ⟨I3, hI3⟩ : ∃ I3, I3 = q_u2 I2 21 8 (nI rd) := ⟨_, rfl⟩
          have hf3 := q_hasFault (κ := κ) (b := b) (I := I3) (R := R) (X := X) (Y := Y) (Z := Z) (M := M) (O := O) (D := D2) (s := s)
          have i14 : I3 14 2 = 0 := by rw [hI3, q_u2_n _ _ _ (by decide), h14]
          rw [i14, show (!decide ((0 : Int32) = 0)) = false from rfl] at hf3
          have up2 : q_PR κ b n0 n D2 I3 R X B l Ls aa xx2 c22 c23 := by
            obtain ⟨p1, p2, p3⟩ := w2
            refine ⟨?_, ?_, p3⟩
            · unfold q_AL at p1 ⊢
              rw [hI3, q_u2_n _ _ _ (by decide)]
              exact p1
            · unfold q_AL at p2 ⊢
              rw [hI3, q_u2_n _ _ _ (by decide)]
              exact p2
          rw [hmv] at hmm
          have es : q_set l Js (q_fit B l (q_LT Ls) L Js) (q_nfx B l (q_LT Ls) L Js) Ls (f + 1) rd fo ad = .inr (fo1, ad1, rd) := by
            rw [q_set, had]
            simp only [hmm, if_false, Bool.false_eq_true]
          rw [es]
          refine ⟨I3, D2, xx2, up2, w3, ?_, hI3, x3, x4, by omega⟩
          rw [F_X8_settle_2]
          simp (disch := first | rfl | omega | decide | exact Nat.le_of_ble_eq_true rfl) only [↓q_br, q_rt, q_rz, q_gd, q_ca, ↓reduceIte, F_X8_settle_2B, F_X8_settle_60, ↓q_gA_21_0, ↓q_is_14, ↓q_is_21, ↓q_pI_21_8, ↓q_is_14, ↓q_is_21, lt, hf, q_b_0, not_true_eq_false, ga, hf1, mo, ← hI3, hf3, or_true]
end QST
