def q_pL (A n : Nat) (la : Nat → Int32) : Nat → Int32 := fun x => if A ≤ x ∧ x < A + n then 1 else la x
def q_pW (A n : Nat) (v : Nat → Int64) (wo : Nat → Int64) : Nat → Int64 := fun x => if A ≤ x ∧ x < A + n then v (x - A) else wo x
theorem q_pL_0 (A : Nat) (la : Nat → Int32) : q_pL A 0 la = la := by
  funext x
  unfold q_pL
  rw [if_neg (by omega)]
theorem q_pW_0 (A : Nat) (v : Nat → Int64) (wo : Nat → Int64) : q_pW A 0 v wo = wo := by
  funext x
  unfold q_pW
  rw [if_neg (by omega)]
theorem q_pL_s (A n : Nat) (la : Nat → Int32) : q_u1 (q_pL A n la) (A + n) 1 = q_pL A (n + 1) la := by
  funext x
  by_cases h : x = A + n
  · rw [h, q_u1_s]
    unfold q_pL
    rw [if_pos (by omega)]
  · rw [q_u1_n _ _ h]
    unfold q_pL
    by_cases h2 : A ≤ x ∧ x < A + n
    · rw [if_pos h2, if_pos (by omega)]
    · rw [if_neg h2, if_neg (by omega)]
theorem q_pW_s (A n : Nat) (v : Nat → Int64) (wo : Nat → Int64) : q_u1 (q_pW A n v wo) (A + n) (v n) = q_pW A (n + 1) v wo := by
  funext x
  by_cases h : x = A + n
  · rw [h, q_u1_s]
    unfold q_pW
    rw [if_pos (by omega), show A + n - A = n from by omega]
  · rw [q_u1_n _ _ h]
    unfold q_pW
    by_cases h2 : A ≤ x ∧ x < A + n
    · rw [if_pos h2, if_pos (by omega)]
    · rw [if_neg h2, if_neg (by omega)]
def q_free (la : Nat → Int32) (A : Nat) : Nat → Nat → Bool := q_al fun w => decide (la (A + w) = 0)
theorem q_free_i {la : Nat → Int32} {A : Nat} : ∀ n w, q_free la A n w = true → ∀ i, w ≤ i → i < w + n → la (A + i) = 0 := by
  intro n
  induction n with
  | zero => intro w _ i h1 h2; omega
  | succ n ih =>
    intro w h i h1 h2
    have h' : (decide (la (A + w) = 0) && q_free la A n (w + 1)) = true := h
    rw [Bool.and_eq_true] at h'
    by_cases hi : i = w
    · rw [hi]; exact of_decide_eq_true h'.1
    · exact ih (w + 1) h'.2 i (by omega) (by omega)
theorem q_free_n {la : Nat → Int32} {A : Nat} : ∀ n w, q_free la A n w = false → ∃ i, w ≤ i ∧ i < w + n ∧ ¬ la (A + i) = 0 ∧ ∀ j, w ≤ j → j < i → la (A + j) = 0 := by
  intro n
  induction n with
  | zero => intro w h; cases h
  | succ n ih =>
    intro w h
    have h' : (decide (la (A + w) = 0) && q_free la A n (w + 1)) = false := h
    by_cases c : la (A + w) = 0
    · rw [decide_eq_true c, Bool.true_and] at h'
      obtain ⟨i, i1, i2, i3, i4⟩ := ih (w + 1) h'
      refine ⟨i, by omega, by omega, i3, fun j j1 j2 => ?_⟩
      by_cases hj : j = w
      · rw [hj]; exact c
      · exact i4 j (by omega) j2
    · exact ⟨w, Nat.le_refl _, by omega, c, fun j j1 j2 => by omega⟩
/-- the words of the lines are laid down -/
def q_lay (wd : q_Lin → Nat) (ad : Nat → Nat) (v : q_Lin → Nat → Int64) : List q_Lin → (Nat → Int32) → (Nat → Int64) → q_Out ((Nat → Int32) × (Nat → Int64))
  | [], la, wo => .inr (la, wo)
  | x :: r, la, wo => if q_free la (ad (q_sF x)) (wd x) 0 = true then q_lay wd ad v r (q_pL (ad (q_sF x)) (wd x) la) (q_pW (ad (q_sF x)) (wd x) (v x) wo) else .inl (8, q_sF x)
theorem q_lay_f {wd : q_Lin → Nat} {ad : Nat → Nat} {v : q_Lin → Nat → Int64} : ∀ (Ls : List q_Lin) (la : Nat → Int32) (wo : Nat → Int64), (∀ x ∈ Ls, ¬ q_rea x = true → wd x = 0) → q_lay wd ad v (Ls.filter q_rea) la wo = q_lay wd ad v Ls la wo := by
  intro Ls
  induction Ls with
  | nil => intro la wo _; rfl
  | cons x r ih =>
    intro la wo h0
    have h0' := fun y hy => h0 y (List.mem_cons_of_mem _ hy)
    by_cases hr : q_rea x = true
    · rw [List.filter_cons_of_pos hr, q_lay, q_lay]
      split
      · exact ih _ _ h0'
      · rfl
    · rw [List.filter_cons_of_neg hr, q_lay, h0 x List.mem_cons_self hr, if_pos (show q_free la (ad (q_sF x)) 0 0 = true from rfl), q_pL_0, q_pW_0]
      exact ih _ _ h0'
theorem q_ad_b {l : List q_Tok} {wd : q_Lin → Nat} (hw3 : ∀ x, q_sS x = 3 → q_vn l (q_sH x + 2) ≤ 4095 → True) : ∀ (Ls : List q_Lin) (A : Nat) (ad ad' : Nat → Nat), q_ad l wd Ls A ad = .inr ad' → A ≤ 4096 → q_INC Ls → (∀ x ∈ Ls, q_sS x = 3 → q_vn l (q_sH x + 2) ≤ 4096 ∧ wd x = 0) → (∀ k, (∀ x ∈ Ls, k ≠ q_sF x) → ad' k = ad k) ∧ ∀ x ∈ Ls, q_rea x = true → ad' (q_sF x) + wd x ≤ 4096 := by
  intro Ls
  induction Ls with
  | nil =>
    intro A ad ad' h _ _ _
    cases h
    exact ⟨fun _ _ => rfl, fun x hx => by cases hx⟩
  | cons x r ih =>
    intro A ad ad' h hA hI h3
    have hI' : (∀ y ∈ r, q_sF x < q_sF y) ∧ q_INC r := List.pairwise_cons.mp hI
    have h3' := fun y hy => h3 y (List.mem_cons_of_mem _ hy)
    have out : ∀ A', q_ad l wd r A' (q_aup ad x A) = .inr ad' → A' ≤ 4096 → A + wd x ≤ 4096 → (∀ k, (∀ y ∈ x :: r, k ≠ q_sF y) → ad' k = ad k) ∧ ∀ y ∈ x :: r, q_rea y = true → ad' (q_sF y) + wd y ≤ 4096 := by
      intro A' h' hA' hw
      obtain ⟨g1, g2⟩ := ih A' _ ad' h' hA' hI'.2 h3'
      refine ⟨fun k hk => ?_, fun y hy hr => ?_⟩
      · rw [g1 k (fun y hy => hk y (List.mem_cons_of_mem _ hy))]
        unfold q_aup
        split
        · rw [q_u1_n _ _ (hk x List.mem_cons_self)]
        · rfl
      · rcases List.mem_cons.mp hy with e | e
        · rw [e] at hr ⊢
          rw [g1 _ (fun w hw9 => by have := hI'.1 w hw9; omega)]
          unfold q_aup
          rw [if_pos hr, q_u1_s]
          exact hw
        · exact g2 y e hr
    rw [q_ad] at h
    split at h
    · rename_i c3
      have := h3 x List.mem_cons_self c3
      exact out _ h this.1 (by rw [this.2]; exact hA)
    · split at h
      · rename_i c4
        exact out _ h c4 c4
      · cases h
theorem q_mm_s {fit : q_Lin → Nat → Bool} {nf : q_Lin → Nat → Option Nat} : ∀ (Ls : List q_Lin) (fo : Nat → Nat) (mv : Bool) y, q_mm fit nf Ls fo mv = .inr y → y.2 = false → mv = false ∧ y.1 = fo := by
  intro Ls
  induction Ls with
  | nil => intro fo mv y h h2; cases h; exact ⟨h2, rfl⟩
  | cons x r ih =>
    intro fo mv y h h2
    rw [q_mm] at h
    split at h
    · split at h
      · cases h
      · exact absurd (ih _ _ _ h h2).1 (by decide)
    · exact ih _ _ _ h h2
theorem q_set_b {l : List q_Tok} {Js : List q_Ins} {fit : (Nat → Nat) → q_Lin → Nat → Bool} {nf : q_Lin → Nat → Option Nat} {Ls : List q_Lin} (hI : q_INC Ls) (h3 : ∀ x ∈ Ls, q_sS x = 3 → q_vn l (q_sH x + 2) ≤ 4096 ∧ q_sW x = 0) : ∀ f rd fo ad fo' ad' rd', q_set l Js fit nf Ls f rd fo ad = .inr (fo', ad', rd') → ∀ x ∈ Ls, q_rea x = true → ad' (q_sF x) + q_wds Js fo' x ≤ 4096 := by
  intro f
  induction f with
  | zero => intro rd fo ad fo' ad' rd' h; cases h
  | succ f ih =>
    intro rd fo ad fo' ad' rd' h
    rw [q_set] at h
    cases had : q_ad l (q_wds Js fo) Ls 0 ad with
    | inl e => rw [had] at h; cases h
    | inr ad1 =>
      rw [had] at h
      cases hmm : q_mm (fit ad1) nf Ls fo false with
      | inl e => simp only [hmm] at h; cases h
      | inr y =>
        simp only [hmm] at h
        split at h
        · exact ih _ _ _ _ _ _ h
        · rename_i c
          cases h
          rw [(q_mm_s _ _ _ _ hmm (Bool.not_eq_true _ ▸ c)).2]
          exact (q_ad_b (fun _ _ _ => trivial) Ls 0 ad ad' had (by decide) hI (fun x hx hs => ⟨(h3 x hx hs).1, by unfold q_wds; rw [if_neg (by omega)]; exact (h3 x hx hs).2⟩)).2
/-- the numbers of a line of data -/
theorem q_nms_v {B : Nat → Int32} {l : List q_Tok} {zt z : Nat} (hwf : q_WF B zt l) (hz : z ≤ 32) : ∀ f t c x, q_nms l (2 ^ z - 1) f t c = .inr x → ∀ w, t + 2 * w < x.2 → (q_tok l (t + 2 * w)).1 = 2 ∧ q_nv l (t + 2 * w) = lN (q_vn l (t + 2 * w)) ∧ q_vn l (t + 2 * w) < 2 ^ z := by
  have p1 : 2 ^ z ≤ 2 ^ 32 := Nat.pow_le_pow_right (by decide) hz
  have p0 : 0 < 2 ^ z := Nat.pow_pos (by decide)
  intro f
  induction f with
  | zero => intro t c x h; cases h
  | succ f ih =>
    intro t c x h w hw
    rw [q_nms] at h
    rcases q_num1_c (l := l) (t := t) (hi := 2 ^ z - 1) with ⟨k, hk, -⟩ | ⟨hk, e1, e2, e3⟩
    · rw [hk] at h; cases h
    · rw [hk] at h
      simp only at h
      have first : (q_tok l t).1 = 2 ∧ q_nv l t = lN (q_vn l t) ∧ q_vn l t < 2 ^ z := by
        obtain ⟨v1, v2⟩ := q_vn_e hwf e1
        rw [v1, q_lN_le (by omega) (by omega)] at e3
        exact ⟨e1, v1, by omega⟩
      split at h
      · by_cases h0 : w = 0
        · rw [h0]; exact first
        · have := ih (t + 2) (c + 1) x h (w - 1) (by omega)
          rw [show t + 2 + 2 * (w - 1) = t + 2 * w from by omega] at this
          exact this
      · cases h
        simp only at hw
        rw [show w = 0 from by omega]
        exact first
theorem q_XP_2 {B : Nat → Int32} {l : List q_Tok} {z zt : Nat} {x : q_Lin} (hwf : q_WF B zt l) (hz : z ≤ 32) (h : q_XP B l z x) (h1 : q_sS x = 2) : ∀ w, w < q_sW x → (q_tok l (q_sH x + 2 + 2 * w)).1 = 2 ∧ q_nv l (q_sH x + 2 + 2 * w) = lN (q_vn l (q_sH x + 2 + 2 * w)) ∧ q_vn l (q_sH x + 2 + 2 * w) < 2 ^ z := by
  obtain ⟨LT, t, ht, hx⟩ := h
  have hwf4 : ∀ i, i < l.length → (q_tok l i).1 ≤ 4 := fun i hi => (hwf i _ (q_tok_s hi)).1
  have en := ((q_ln1_b hwf4 hx ht).2.2.2.2.2.2.2.2.2.1 h1).1
  unfold q_ln1 at hx
  split at hx
  · cases hx
  · cases hs : q_st1 B l z (q_hd l t) with
    | inl e => rw [hs] at hx; cases hx
    | inr y =>
      rw [hs] at hx
      simp only at hx
      split at hx
      · cases hx
        unfold q_st1 at hs
        split at hs
        · cases hs; cases h1
        · split at hs
          · split at hs
            · cases hn : q_nms l (2 ^ z - 1) (l.length + 1) (q_hd l t + 2) 0 with
              | inl e => rw [hn] at hs; cases hs
              | inr u =>
                rw [hn] at hs
                cases hs
                intro w hw
                have hw' : w < u.1 := hw
                have en' : u.2 + 1 = q_hd l t + 2 + 2 * u.1 := en
                exact q_nms_v hwf hz _ _ _ _ hn w (by omega)
            · split at hs
              · cases hn : q_num1 l (q_hd l t + 2) 4095 with
                | inl e => rw [hn] at hs; cases hs
                | inr u => rw [hn] at hs; cases hs; cases h1
              · cases hs
          · cases hs
            cases h1
      · cases hx
/-- what a word of a line is -/
def q_wv (B : Nat → Int32) (l : List q_Tok) (LT : List Nat) (L : List q_Knd) (Js : List q_Ins) (fo ad : Nat → Nat) (x : q_Lin) (w : Nat) : Nat := if q_sS x = 1 then (match q_isf B l LT L (q_jg Js (fo (q_sF x))) (q_sH x) (q_sE x) with
    | none => 0
    | some ps => q_dw (q_pb9 (q_held B l LT L (q_jg Js (fo (q_sF x))).2.2.1 ad (q_sF x) ps)) 0 ((q_jg Js (fo (q_sF x))).2.2.2.getD w [])) else q_vn l (q_sH x + 2 + 2 * w)
