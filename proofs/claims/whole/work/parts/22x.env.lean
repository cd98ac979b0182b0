def q_XP (B : Nat → Int32) (l : List q_Tok) (z : Nat) (x : q_Lin) : Prop := ∃ LT t, t ≤ l.length ∧ q_ln1 B l z LT t = .inr x
def q_INC (Ls : List q_Lin) : Prop := Ls.Pairwise fun x y => q_sF x < q_sF y
theorem q_lns_p {B : Nat → Int32} {l : List q_Tok} {z : Nat} (hwf : ∀ i, i < l.length → (q_tok l i).1 ≤ 4) : ∀ f t FL G, q_lns B l z f t FL = .inr G → (∀ x ∈ FL, q_XP B l z x ∧ q_sF x < t) → q_INC FL → t ≤ l.length → (∀ x ∈ G, q_XP B l z x) ∧ q_INC G := by
  intro f
  induction f with
  | zero => intro t FL G h; cases h
  | succ f ih =>
    intro t FL G h hP hI ht
    rw [q_lns] at h
    cases hx : q_ln1 B l z (q_LT FL) t with
    | inl e => rw [hx] at h; cases h
    | inr x =>
      rw [hx] at h
      simp only at h
      obtain ⟨b1, b2, b3, b4, b5, -⟩ := q_ln1_b hwf hx ht
      have xp : q_XP B l z x := ⟨q_LT FL, t, ht, hx⟩
      have inc : q_INC (FL ++ [x]) := by
        unfold q_INC
        rw [List.pairwise_append]
        refine ⟨hI, List.pairwise_singleton _ _, fun y hy w hw => ?_⟩
        rw [List.mem_singleton] at hw
        rw [hw, b1]
        exact (hP y hy).2
      split at h
      · cases h
        refine ⟨fun y hy => ?_, inc⟩
        rcases List.mem_append.mp hy with h9 | h9
        · exact (hP y h9).1
        · rw [List.mem_singleton] at h9
          rw [h9]
          exact xp
      · rename_i hle
        refine ih (q_sE x + 1) (FL ++ [x]) G h (fun y hy => ?_) inc (by omega)
        rcases List.mem_append.mp hy with h9 | h9
        · exact ⟨(hP y h9).1, by have := (hP y h9).2; omega⟩
        · rw [List.mem_singleton] at h9
          rw [h9]
          exact ⟨xp, by omega⟩
theorem q_lg_m {Ls : List q_Lin} {i : Nat} (hi : i < Ls.length) : q_lg Ls i ∈ Ls := by
  unfold q_lg
  rw [List.getD_eq_getElem?_getD, List.getElem?_eq_getElem hi]
  exact List.getElem_mem hi
theorem q_lg_g {Ls : List q_Lin} {i : Nat} (hi : i < Ls.length) : q_lg Ls i = Ls[i] := by
  unfold q_lg
  rw [List.getD_eq_getElem?_getD, List.getElem?_eq_getElem hi]
  rfl
theorem q_INC_n {Ls : List q_Lin} {i j : Nat} (h : q_INC Ls) (hi : i < Ls.length) (hj : j < Ls.length) (hij : i ≠ j) : q_sF (q_lg Ls i) ≠ q_sF (q_lg Ls j) := by
  rw [q_lg_g hi, q_lg_g hj]
  have h9 := List.pairwise_iff_getElem.mp h
  rcases Nat.lt_or_ge i j with h8 | h8
  · have := h9 i j hi hj h8
    omega
  · have := h9 j i hj hi (by omega)
    omega
theorem q_lg_d {Ls : List q_Lin} {i : Nat} (hi : i < Ls.length) : Ls.drop i = q_lg Ls i :: Ls.drop (i + 1) := q_drop_s hi
/-- the first form of each line -/
def q_ff (nf : q_Lin → Nat → Option Nat) : List q_Lin → (Nat → Nat) → q_Out (Nat → Nat)
  | [], fo => .inr fo
  | x :: r, fo => if q_sS x = 1 then (match nf x 0 with
      | none => .inl (6, q_sH x)
      | some j => q_ff nf r (q_u1 fo (q_sF x) j)) else q_ff nf r fo
theorem q_rea_0 {x : q_Lin} (h : ¬ q_rea x = true) : q_sS x = 0 := by
  unfold q_rea at h
  rw [Bool.or_eq_true, Bool.not_eq_true', decide_eq_false_iff_not] at h
  by_cases h0 : q_sS x = 0
  · exact h0
  · exact absurd (Or.inr h0) h
theorem q_ff_f {nf : q_Lin → Nat → Option Nat} : ∀ (Ls : List q_Lin) (fo : Nat → Nat), q_ff nf (Ls.filter q_rea) fo = q_ff nf Ls fo := by
  intro Ls
  induction Ls with
  | nil => intro fo; rfl
  | cons x r ih =>
    intro fo
    by_cases hr : q_rea x = true
    · rw [List.filter_cons_of_pos hr, q_ff, q_ff]
      split
      · split
        · rfl
        · exact ih _
      · exact ih _
    · rw [List.filter_cons_of_neg hr, q_ff, if_neg (by rw [q_rea_0 hr]; decide), ih]
def q_nfx (B : Nat → Int32) (l : List q_Tok) (LT : List Nat) (L : List q_Knd) (Js : List q_Ins) (x : q_Lin) (i : Nat) : Option Nat := q_nf B l LT L Js (q_sH x) (q_sE x) i
theorem q_nf_s {B : Nat → Int32} {l : List q_Tok} {LT : List Nat} {L : List q_Knd} {Js : List q_Ins} {hd en i j : Nat} (h : q_nf B l LT L Js hd en i = some j) (hi : i ≤ Js.length) : i ≤ j ∧ j < Js.length ∧ ∃ ps, q_isf B l LT L (q_jg Js j) hd en = some ps := by
  obtain ⟨h1, h2, h3, -⟩ := q_fi_s _ _ _ h
  exact ⟨h1, by omega, Option.isSome_iff_exists.mp h3⟩
/-- a line of code: where it ends -/
theorem q_XP_E {B : Nat → Int32} {l : List q_Tok} {z : Nat} {x : q_Lin} (hwf : ∀ i, i < l.length → (q_tok l i).1 ≤ 4) (h : q_XP B l z x) (h1 : q_sS x = 1) : q_LE l (q_sH x) (q_sE x) ∧ (q_tok l (q_sH x)).1 = 1 := by
  obtain ⟨LT, t, ht, hx⟩ := h
  obtain ⟨b1, b2, b3, b4, b5, b6, b7, b8, b9, -⟩ := q_ln1_b hwf hx ht
  refine ⟨⟨(b9 h1).1, b5, (b9 h1).2, b6⟩, ?_⟩
  unfold q_ln1 at hx
  split at hx
  · cases hx
  · cases hs : q_st1 B l z (q_hd l t) with
    | inl e => rw [hs] at hx; cases hx
    | inr y =>
      rw [hs] at hx
      simp only at hx
      split at hx
      · cases hx
        show (q_tok l (q_hd l t)).1 = 1
        unfold q_st1 at hs
        split at hs
        · assumption
        · split at hs
          · split at hs
            · cases hn : q_nms l (2 ^ z - 1) (l.length + 1) (q_hd l t + 2) 0 with
              | inl e => rw [hn] at hs; cases hs
              | inr w => rw [hn] at hs; cases hs; cases h1
            · split at hs
              · cases hn : q_num1 l (q_hd l t + 2) 4095 with
                | inl e => rw [hn] at hs; cases hs
                | inr w => rw [hn] at hs; cases hs; cases h1
              · cases hs
          · cases hs
            cases h1
      · cases hx
def q_YL (B : Nat → Int32) (l : List q_Tok) (LT : List Nat) (Y : Nat → Nat → Int64) (x : q_Lin) : Prop := ∀ t, q_sH x < t → t < q_sE x → (q_tok l t).1 = 1 → Y 7 t = (q_mv (q_lk B l LT t)).toInt64
def q_YY (B : Nat → Int32) (l : List q_Tok) (LT : List Nat) (Y Y' : Nat → Nat → Int64) : Prop := (∀ j, j ≠ 7 → Y' j = Y j) ∧ ∀ t, Y' 7 t = Y 7 t ∨ ((q_tok l t).1 = 1 ∧ Y' 7 t = (q_mv (q_lk B l LT t)).toInt64)
theorem q_YY_r {B : Nat → Int32} {l : List q_Tok} {LT : List Nat} {Y : Nat → Nat → Int64} : q_YY B l LT Y Y := ⟨fun _ _ => rfl, fun _ => Or.inl rfl⟩
theorem q_YY_t {B : Nat → Int32} {l : List q_Tok} {LT : List Nat} {Y Y' Y2 : Nat → Nat → Int64} (h : q_YY B l LT Y Y') (h' : q_YY B l LT Y' Y2) : q_YY B l LT Y Y2 := ⟨fun j hj => by rw [h'.1 j hj, h.1 j hj], fun t => by
  rcases h'.2 t with e | e
  · rw [e]
    exact h.2 t
  · exact Or.inr e⟩
theorem q_YY_L {B : Nat → Int32} {l : List q_Tok} {LT : List Nat} {Y Y' : Nat → Nat → Int64} {x : q_Lin} (h : q_YY B l LT Y Y') (hx : q_YL B l LT Y x) : q_YL B l LT Y' x := fun t h1 h2 h3 => by
  rcases h.2 t with e | e
  · rw [e]
    exact hx t h1 h2 h3
  · exact e.2
theorem q_TC_N {B : Nat → Int32} {l : List q_Tok} {zt : Nat} {LT : List Nat} {I : Nat → Nat → Int32} {X : Nat → Nat → Int32} {Y Y' : Nat → Nat → Int64} (h : q_TC B l zt I X Y) (hy : q_YY B l LT Y Y') : q_TC B l zt I X Y' := by
  obtain ⟨q1, q2, q3, q4, q5, q6, q7⟩ := h
  refine ⟨q1, q2, q3, ⟨fun t x hx => ?_, q4.2⟩, q5, q6, q7⟩
  obtain ⟨r1, r2, r3, r4⟩ := q4.1 t x hx
  refine ⟨r1, r2, r3, fun h9 => ?_⟩
  have e : q_tok l t = x := by unfold q_tok; rw [List.getD_eq_getElem?_getD, hx]; rfl
  rcases hy.2 t with e1 | e1
  · rw [e1]
    exact r4 h9
  · have := e1.1
    rw [e] at this
    omega
theorem q_Kp_8 {κ : Nat → Nat} {b n0 : Nat} {D0 D : q_Mem} (h : q_Kp κ b D0) (hS : q_S8 n0 D0 D) (hn : b < n0) : q_Kp κ b D := by
  refine ⟨fun i hi => ?_, ?_, h.2.2⟩
  · obtain ⟨h1, h2, h3, h4⟩ := h.1 i hi
    exact ⟨by rw [hS _ (by omega) (by rw [h1]; rfl), h1], h2, by rw [hS _ (by omega) (by rw [h3]; rfl), h3], h4⟩
  · rw [hS _ (by have := h.2.2; omega) (by rw [h.2.1]; rfl), h.2.1]
/-- a line's record changes -/
theorem q_PR_u {κ : Nat → Nat} {b n0 n : Nat} {D : q_Mem} {I : Nat → Nat → Int32} {R : Nat → Nat → Option Nat} {X : Nat → Nat → Int32} {B : Nat → Int32} {l : List q_Tok} {Ls : List q_Lin} {aa : Nat → Nat} {xx : Nat → q_Lx} {c22 c23 i : Nat} {x : q_Lx} (h : q_PR κ b n0 n D I R X B l Ls aa xx c22 c23) (hi : i < Ls.length) (hx : x.1 = (xx i).1) (ho : q_xo x = q_xo (xx i)) : q_PR κ b n0 n (q_up (q_up D (aa i + 1) (q_La x)) (aa i) (q_Lc (aa i) x)) I R X B l Ls aa (q_u1 xx i x) c22 c23 := by
  obtain ⟨p1, p2, p3, p4, p5, p6, p7⟩ := h
  obtain ⟨⟨o1, o2, o3, o4⟩, -⟩ := p3 i hi
  have t1 : q_t7 (D (aa i + 1)) = false := by rw [o4]; rfl
  have t2 : q_t7 (q_up D (aa i + 1) (q_La x) (aa i)) = false := by rw [q_up_n _ _ (by omega), o3]; rfl
  have s1 := q_LS_p (f := q_xp x) p3 hi
  have s2 := q_LS_o (x := x) s1 hi (by rw [q_u1_s]; show q_sS x.1 = q_sS (xx i).1; rw [hx]) (by rw [q_u1_s])
  have ea : q_La ((xx i).1, (xx i).2.1, q_xp x) = q_La x := by unfold q_La; rw [hx]
  rw [ea, q_u1_u1] at s2
  refine ⟨q_AL_o (n0 := n0) (q_AL_o (n0 := n0) p1 t1) t2, q_AL_o (n0 := n0) (q_AL_o (n0 := n0) p2 t1) t2, s2, fun j hj => ?_, fun k hk => ?_, p6, p7⟩
  · by_cases hji : j = i
    · rw [hji, q_u1_s, hx]
      exact p4 i hi
    · rw [q_u1_n _ _ hji]
      exact p4 j hj
  · rw [← p5 k hk]
    by_cases hji : (q_lbs Ls).getD k 0 = i
    · rw [hji, q_u1_s, ho]
    · rw [q_u1_n _ _ hji]
/-- what the class holds of a line's form -/
def q_CF (B : Nat → Int32) (l : List q_Tok) (LT : List Nat) (L : List q_Knd) (Js : List q_Ins) (fo : Nat → Nat) (x : q_Lx) : Prop := (q_sS x.1 = 1 → fo (q_sF x.1) < Js.length ∧ q_xf x = nI (fo (q_sF x.1)) ∧ q_xw x = nI (q_jg Js (fo (q_sF x.1))).2.2.2.length ∧ ∃ ps, q_isf B l LT L (q_jg Js (fo (q_sF x.1))) (q_sH x.1) (q_sE x.1) = some ps ∧ ∀ o, o < (q_jg Js (fo (q_sF x.1))).2.2.1.length → q_xp x o = nI (ps o)) ∧ (q_sS x.1 ≠ 1 → q_xw x = nI (q_sW x.1))
theorem q_CF_k {B : Nat → Int32} {l : List q_Tok} {LT : List Nat} {L : List q_Knd} {Js : List q_Ins} {fo fo' : Nat → Nat} {x : q_Lx} (h : q_CF B l LT L Js fo x) (he : fo' (q_sF x.1) = fo (q_sF x.1)) : q_CF B l LT L Js fo' x := by
  unfold q_CF at h ⊢
  rw [he]
  exact h
def q_Env (b n0 : Nat) (D0 : q_Mem) (Z : Nat → Nat → Option Nat) (I : Nat → Nat → Int32) (L : List q_Knd) (z : Nat) (Js : List q_Ins) : Prop := q_CIs b n0 D0 Z L z Js ∧ q_CMk b n0 D0 I Z L ∧ I 8 4 = nI Js.length ∧ Js.length ≤ 96 ∧ ∀ J ∈ Js, q_Jok J
