/-! ===== the lines of a program ===== -/
abbrev q_Lin : Type := Nat × Nat × Nat × Nat × Nat
abbrev q_sS (x : q_Lin) : Nat := x.1
abbrev q_sF (x : q_Lin) : Nat := x.2.1
abbrev q_sH (x : q_Lin) : Nat := x.2.2.1
abbrev q_sE (x : q_Lin) : Nat := x.2.2.2.1
abbrev q_sW (x : q_Lin) : Nat := x.2.2.2.2
def q_lab (x : q_Lin) : Bool := !decide (q_sF x = q_sH x)
def q_rea (x : q_Lin) : Bool := q_lab x || !decide (q_sS x = 0)
/-- the tokens that are labels -/
def q_LT (Ls : List q_Lin) : List Nat := (Ls.filter q_lab).map q_sF
/-- the lines that have a label -/
def q_lbs (Ls : List q_Lin) : List Nat := (List.range Ls.length).filter fun i => q_lab (Ls.getD i (0, 0, 0, 0, 0))
def q_lk (B : Nat → Int32) (l : List q_Tok) (LT : List Nat) (t : Nat) : Option Nat := q_fi (fun k => decide (q_tB B (q_tok l (LT.getD k 0)) = q_tB B (q_tok l t))) LT.length 0
def q_nms (l : List q_Tok) (hi : Nat) : Nat → Nat → Nat → q_Out (Nat × Nat)
  | 0, t, _ => .inl (1, t)
  | f + 1, t, c => match q_num1 l t hi with
    | .inl e => .inl e
    | .inr _ => if q_sgn l (t + 1) 44 = true then q_nms l hi f (t + 2) (c + 1) else .inr (c + 1, t + 1)
def q_sk (l : List q_Tok) (t : Nat) : Nat := q_to (fun i => !decide ((q_tok l i).1 = 4)) (l.length - t) t
def q_st1 (B : Nat → Int32) (l : List q_Tok) (z t : Nat) : q_Out (Nat × Nat × Nat) :=
  if (q_tok l t).1 = 1 then .inr (1, q_sk l t, 0)
  else if q_sgn l t 46 = true then (if q_wd B l (t + 1) 3 = true then (match q_nms l (2 ^ z - 1) (l.length + 1) (t + 2) 0 with
      | .inl e => .inl e
      | .inr x => .inr (2, x.2, x.1))
    else if q_wd B l (t + 1) 13 = true then (match q_num1 l (t + 2) 4095 with
      | .inl e => .inl e
      | .inr _ => .inr (3, t + 3, 0))
    else .inl (1, t + 1))
  else .inr (0, t, 0)
def q_isl (l : List q_Tok) (t : Nat) : Bool := decide ((q_tok l t).1 = 1) && q_sgn l (t + 1) 58
def q_hd (l : List q_Tok) (t : Nat) : Nat := if q_isl l t = true then t + 2 else t
def q_ln1 (B : Nat → Int32) (l : List q_Tok) (z : Nat) (LT : List Nat) (t : Nat) : q_Out q_Lin :=
  if (q_isl l t && (q_lk B l LT t).isSome) = true then .inl (2, t) else (match q_st1 B l z (q_hd l t) with
    | .inl e => .inl e
    | .inr x => if (q_tok l x.2.1).1 = 4 ∨ (q_tok l x.2.1).1 = 5 then .inr (x.1, t, q_hd l t, x.2.1, x.2.2) else .inl (1, x.2.1))
def q_lns (B : Nat → Int32) (l : List q_Tok) (z : Nat) : Nat → Nat → List q_Lin → q_Out (List q_Lin)
  | 0, t, _ => .inl (1, t)
  | f + 1, t, FL => match q_ln1 B l z (q_LT FL) t with
    | .inl e => .inl e
    | .inr x => if l.length ≤ q_sE x then .inr (FL ++ [x]) else q_lns B l z f (q_sE x + 1) (FL ++ [x])
def q_lnc (B : Nat → Int32) (l : List q_Tok) (z : Nat) : Nat → Nat → List q_Lin → q_Out (List q_Lin)
  | 0, _, Ls => .inr Ls
  | f + 1, t, Ls => if l.length ≤ t then .inr Ls else (match q_ln1 B l z (q_LT Ls) t with
    | .inl e => .inl e
    | .inr x => q_lnc B l z f (q_sE x + 1) (if q_rea x = true then Ls ++ [x] else Ls))
theorem q_LT_a (Ls : List q_Lin) (x : q_Lin) : q_LT (Ls ++ [x]) = if q_lab x = true then q_LT Ls ++ [q_sF x] else q_LT Ls := by
  unfold q_LT
  rw [List.filter_append, List.map_append]
  cases h : q_lab x <;> simp [h]
theorem q_LT_f (FL : List q_Lin) : q_LT (FL.filter q_rea) = q_LT FL := by
  unfold q_LT
  rw [List.filter_filter]
  congr 1
  apply List.filter_congr
  intro x _
  unfold q_rea
  cases q_lab x <;> simp
theorem q_lbs_a (Ls : List q_Lin) (x : q_Lin) : q_lbs (Ls ++ [x]) = if q_lab x = true then q_lbs Ls ++ [Ls.length] else q_lbs Ls := by
  unfold q_lbs
  rw [List.length_append, List.length_singleton, List.range_succ, List.filter_append]
  have e1 : (List.range Ls.length).filter (fun i => q_lab ((Ls ++ [x]).getD i (0, 0, 0, 0, 0))) = (List.range Ls.length).filter (fun i => q_lab (Ls.getD i (0, 0, 0, 0, 0))) := by
    apply List.filter_congr
    intro i hi
    rw [List.mem_range] at hi
    rw [List.getD_eq_getElem?_getD, List.getD_eq_getElem?_getD, List.getElem?_append_left hi]
  have e2 : (Ls ++ [x]).getD Ls.length (0, 0, 0, 0, 0) = x := by
    rw [List.getD_eq_getElem?_getD, List.getElem?_append_right (Nat.le_refl _), Nat.sub_self]
    rfl
  rw [e1]
  cases h : q_lab x with
  | true => rw [List.filter_cons_of_pos (by rw [e2]; exact h)]; rfl
  | false => rw [List.filter_cons_of_neg (by rw [e2, h]; decide)]; simp
theorem q_lbs_l : ∀ Ls : List q_Lin, (q_lbs Ls).length = (q_LT Ls).length ∧ (∀ k i, (q_lbs Ls)[k]? = some i → i < Ls.length ∧ q_sF (Ls.getD i (0, 0, 0, 0, 0)) = (q_LT Ls).getD k 0) := by
  have all : ∀ n (Ls : List q_Lin), Ls.length = n → (q_lbs Ls).length = (q_LT Ls).length ∧ (∀ k i, (q_lbs Ls)[k]? = some i → i < Ls.length ∧ q_sF (Ls.getD i (0, 0, 0, 0, 0)) = (q_LT Ls).getD k 0) := by
    intro n
    induction n with
    | zero =>
      intro Ls hn
      have e : Ls = [] := List.eq_nil_of_length_eq_zero hn
      subst e
      exact ⟨rfl, fun k i h => by simp [q_lbs] at h⟩
    | succ n ih =>
      intro Ms hn
      have hne : Ms ≠ [] := fun h9 => by rw [h9] at hn; simp at hn
      obtain ⟨Ls, x, rfl⟩ : ∃ Ls x, Ms = Ls ++ [x] := ⟨Ms.dropLast, Ms.getLast hne, (List.dropLast_concat_getLast hne).symm⟩
      have hn' : Ls.length = n := by
        rw [List.length_append, List.length_singleton] at hn
        omega
      obtain ⟨h1, h2⟩ := ih Ls hn'
      rw [q_lbs_a, q_LT_a]
      have key : ∀ k i, (q_lbs Ls)[k]? = some i → i < (Ls ++ [x]).length ∧ q_sF ((Ls ++ [x]).getD i (0, 0, 0, 0, 0)) = (q_LT Ls).getD k 0 := fun k i hk => by
        obtain ⟨a1, a2⟩ := h2 k i hk
        refine ⟨by rw [List.length_append]; omega, ?_⟩
        rw [← a2, List.getD_eq_getElem?_getD, List.getD_eq_getElem?_getD, List.getElem?_append_left a1]
      cases hl : q_lab x with
      | false =>
        rw [if_neg (by decide), if_neg (by decide)]
        exact ⟨h1, key⟩
      | true =>
        rw [if_pos rfl, if_pos rfl]
        refine ⟨by rw [List.length_append, List.length_append, h1]; rfl, fun k i hk => ?_⟩
        by_cases hkl : k < (q_lbs Ls).length
        · rw [List.getElem?_append_left hkl] at hk
          obtain ⟨a1, a2⟩ := key k i hk
          refine ⟨a1, ?_⟩
          rw [a2, List.getD_eq_getElem?_getD, List.getD_eq_getElem?_getD, List.getElem?_append_left (by omega)]
        · have hk2 : k = (q_lbs Ls).length := by
            have := (List.getElem?_eq_some_iff.mp hk).1
            rw [List.length_append, List.length_singleton] at this
            omega
          rw [hk2, List.getElem?_append_right (Nat.le_refl _), Nat.sub_self] at hk
          have hi : Ls.length = i := by simpa using hk
          subst hi
          refine ⟨by rw [List.length_append, List.length_singleton]; omega, ?_⟩
          rw [hk2, h1, List.getD_eq_getElem?_getD, List.getD_eq_getElem?_getD, List.getElem?_append_right (Nat.le_refl _), List.getElem?_append_right (Nat.le_refl _), Nat.sub_self, Nat.sub_self]
          rfl
  exact fun Ls => all _ Ls rfl
theorem q_to_x {c : Nat → Bool} : ∀ n p, p ≤ q_to c n p ∧ q_to c n p ≤ p + n ∧ (∀ i, p ≤ i → i < q_to c n p → c i = true) ∧ (q_to c n p < p + n → c (q_to c n p) = false) := by
  intro n
  induction n with
  | zero => intro p; exact ⟨Nat.le_refl _, Nat.le_refl _, fun i h1 h2 => by simp [q_to] at h2; omega, fun h => by simp [q_to] at h⟩
  | succ n ih =>
    intro p
    unfold q_to
    cases hc : c p with
    | true =>
      simp only [if_true]
      obtain ⟨a1, a2, a3, a4⟩ := ih (p + 1)
      refine ⟨by omega, by omega, fun i h1 h2 => ?_, fun h => a4 (by omega)⟩
      by_cases hi : i = p
      · subst hi; exact hc
      · exact a3 i (by omega) h2
    | false =>
      simp only [Bool.false_eq_true, if_false]
      exact ⟨Nat.le_refl _, by omega, fun i h1 h2 => by omega, fun _ => hc⟩
theorem q_nms_b {l : List q_Tok} {hi : Nat} : ∀ f t c x, q_nms l hi f t c = .inr x → t < x.2 ∧ x.2 ≤ l.length ∧ c < x.1 ∧ x.2 + 2 * c + 1 = t + 2 * x.1 := by
  intro f
  induction f with
  | zero => intro t c x h; cases h
  | succ f ih =>
    intro t c x h
    rw [q_nms] at h
    split at h
    · cases h
    · rename_i v hv
      have ht : t < l.length := by
        unfold q_num1 at hv
        split at hv
        · exact q_tok_lt (by omega)
        · cases hv
      split at h
      · obtain ⟨a1, a2, a3, a4⟩ := ih _ _ _ h
        exact ⟨by omega, a2, by omega, by omega⟩
      · cases h
        exact ⟨by show t < t + 1; omega, by show t + 1 ≤ l.length; omega, by show c < c + 1; omega, by show t + 1 + 2 * c + 1 = t + 2 * (c + 1); omega⟩
/-- where a line that is read ends -/
theorem q_ln1_b {B : Nat → Int32} {l : List q_Tok} {z t : Nat} {LT : List Nat} {x : q_Lin} (hwf : ∀ i, i < l.length → (q_tok l i).1 ≤ 4) (h : q_ln1 B l z LT t = .inr x) (ht : t ≤ l.length) : q_sF x = t ∧ q_sH x = q_hd l t ∧ t ≤ q_sH x ∧ q_sH x ≤ q_sE x ∧ q_sE x ≤ l.length ∧ ((q_tok l (q_sE x)).1 = 4 ∨ (q_tok l (q_sE x)).1 = 5) ∧ (q_rea x = true → t < q_sE x) ∧ q_sS x ≤ 3 ∧ (q_sS x = 1 → q_sH x < q_sE x ∧ ∀ i, q_sH x ≤ i → i < q_sE x → (q_tok l i).1 ≠ 4 ∧ (q_tok l i).1 ≠ 5) ∧ (q_sS x = 2 → q_sE x + 1 = q_sH x + 2 + 2 * q_sW x ∧ 0 < q_sW x) ∧ (q_sS x = 3 → q_sE x = q_sH x + 3) ∧ (q_sS x ≠ 2 → q_sW x = 0) := by
  unfold q_ln1 at h
  split at h
  · cases h
  · split at h
    · cases h
    · rename_i y hy
      split at h
      · rename_i he
        cases h
        have hh : t ≤ q_hd l t ∧ q_hd l t ≤ l.length := by
          unfold q_hd
          split
          · rename_i h9
            unfold q_isl at h9
            rw [Bool.and_eq_true] at h9
            have := h9.2
            unfold q_sgn at this
            rw [decide_eq_true_eq] at this
            have := q_tok_lt (l := l) (t := t + 1) (by omega)
            exact ⟨by omega, by omega⟩
          · exact ⟨Nat.le_refl _, ht⟩
        unfold q_st1 at hy
        split at hy
        · rename_i h1
          cases hy
          have hlt := q_tok_lt (l := l) (t := q_hd l t) (by omega)
          obtain ⟨a1, a2, a3, a4⟩ := q_to_x (c := fun i => !decide ((q_tok l i).1 = 4)) (l.length - q_hd l t) (q_hd l t)
          have sk : q_sk l (q_hd l t) = q_to (fun i => !decide ((q_tok l i).1 = 4)) (l.length - q_hd l t) (q_hd l t) := rfl
          rw [← sk] at a1 a2 a3 a4
          have gt : q_hd l t < q_sk l (q_hd l t) := by
            rcases Nat.lt_or_ge (q_hd l t) (q_sk l (q_hd l t)) with g | g
            · exact g
            · have e : q_sk l (q_hd l t) = q_hd l t := by omega
              rw [e] at he
              simp only at he
              omega
          refine ⟨rfl, rfl, hh.1, by show q_hd l t ≤ q_sk l (q_hd l t); omega, by show q_sk l (q_hd l t) ≤ l.length; omega, he, fun _ => by show t < q_sk l (q_hd l t); omega, (by show 1 ≤ 3; decide), fun _ => ⟨gt, fun i i1 i2 => ?_⟩, fun h9 => absurd (show (1 : Nat) = 2 from h9) (by decide), fun h9 => absurd (show (1 : Nat) = 3 from h9) (by decide), fun _ => rfl⟩
          have i2' : i < q_sk l (q_hd l t) := i2
          have b1 := a3 i i1 i2'
          rw [Bool.not_eq_true', decide_eq_false_iff_not] at b1
          refine ⟨b1, fun h5 => ?_⟩
          have := hwf i (by omega)
          omega
        · split at hy
          · rename_i h1 h46
            have hlt : q_hd l t < l.length := by
              unfold q_sgn at h46
              rw [decide_eq_true_eq] at h46
              exact q_tok_lt (by omega)
            split at hy
            · split at hy
              · cases hy
              · rename_i u hu
                cases hy
                obtain ⟨a1, a2, a3, a4⟩ := q_nms_b _ _ _ _ hu
                exact ⟨rfl, rfl, hh.1, by show q_hd l t ≤ u.2; omega, a2, he, fun _ => by show t < u.2; omega, by show 2 ≤ 3; decide, fun h9 => absurd (show (2 : Nat) = 1 from h9) (by decide), fun _ => ⟨by show u.2 + 1 = q_hd l t + 2 + 2 * u.1; omega, by show 0 < u.1; omega⟩, fun h9 => absurd (show (2 : Nat) = 3 from h9) (by decide), fun h9 => absurd rfl h9⟩
            · split at hy
              · split at hy
                · cases hy
                · rename_i u hu
                  cases hy
                  have hl3 : q_hd l t + 2 < l.length := by
                    unfold q_num1 at hu
                    split at hu
                    · exact q_tok_lt (by omega)
                    · cases hu
                  exact ⟨rfl, rfl, hh.1, by show q_hd l t ≤ q_hd l t + 3; omega, by show q_hd l t + 3 ≤ l.length; omega, he, fun _ => by show t < q_hd l t + 3; omega, by show 3 ≤ 3; decide, fun h9 => absurd (show (3 : Nat) = 1 from h9) (by decide), fun h9 => absurd (show (3 : Nat) = 2 from h9) (by decide), fun _ => rfl, fun _ => rfl⟩
              · cases hy
          · cases hy
            refine ⟨rfl, rfl, hh.1, Nat.le_refl _, hh.2, he, fun hr => ?_, by show 0 ≤ 3; decide, fun h9 => absurd (show (0 : Nat) = 1 from h9) (by decide), fun h9 => absurd (show (0 : Nat) = 2 from h9) (by decide), fun h9 => absurd (show (0 : Nat) = 3 from h9) (by decide), fun _ => rfl⟩
            have hr' : (!decide (t = q_hd l t) || !decide ((0 : Nat) = 0)) = true := hr
            simp at hr'
            show t < q_hd l t
            omega
      · cases h
/-- the two ways of reading the lines say the same -/
theorem q_lns_c {B : Nat → Int32} {l : List q_Tok} {z : Nat} (hwf : ∀ i, i < l.length → (q_tok l i).1 ≤ 4) : ∀ f t (FL : List q_Lin), l.length + 1 < t + f → t ≤ l.length → (match q_lns B l z f t FL with
    | .inl e => q_lnc B l z f t (FL.filter q_rea) = .inl e
    | .inr G => q_lnc B l z f t (FL.filter q_rea) = .inr (G.filter q_rea)) := by
  intro f
  induction f with
  | zero => intro t FL h1 h2; omega
  | succ f ih =>
    intro t FL h1 h2
    rw [q_lns, q_lnc, q_LT_f]
    by_cases ht : l.length ≤ t
    · -- the empty line behind the last
      have e : t = l.length := by omega
      have t5 : (q_tok l t).1 = 5 := by rw [q_tok_e ht]
      have n1 : q_isl l t = false := by
        unfold q_isl
        rw [t5]
        rfl
      have hd : q_hd l t = t := by
        unfold q_hd
        rw [n1, if_neg (by decide)]
      have sg : q_sgn l t 46 = false := by
        unfold q_sgn
        rw [t5]
        rfl
      have st : q_st1 B l z t = .inr (0, t, 0) := by
        unfold q_st1
        rw [t5, sg, if_neg (by decide), if_neg (by decide)]
      have ln : q_ln1 B l z (q_LT FL) t = .inr (0, t, t, t, 0) := by
        unfold q_ln1
        rw [n1, hd, st, Bool.false_and, if_neg (by decide)]
        simp only [t5, or_true, if_true]
      have rr : q_rea (0, t, t, t, 0) = false := by
        unfold q_rea q_lab
        simp
      rw [ln, if_pos ht]
      simp only [if_pos ht]
      rw [List.filter_append, List.filter_cons_of_neg (by rw [rr]; decide)]
      simp
    · rw [if_neg ht]
      cases hq : q_ln1 B l z (q_LT FL) t with
      | inl e => simp only
      | inr x =>
        simp only
        obtain ⟨b1, b2, b3, b4, b5, b6, -⟩ := q_ln1_b hwf hq (by omega)
        have fl : (if q_rea x = true then FL.filter q_rea ++ [x] else FL.filter q_rea) = (FL ++ [x]).filter q_rea := by
          rw [List.filter_append]
          cases hr : q_rea x <;> simp [hr]
        rw [fl]
        by_cases hE : l.length ≤ q_sE x
        · rw [if_pos hE]
          simp only
          cases f with
          | zero => rw [q_lnc]
          | succ f => rw [q_lnc, if_pos (by omega)]
        · rw [if_neg hE]
          exact ih (q_sE x + 1) (FL ++ [x]) (by omega) (by omega)
