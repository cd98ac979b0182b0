/-! ===== the statements of a description ===== -/
def q_so (B : Nat → Int32) (l : List q_Tok) (t : Nat) : Option Nat := if q_wd B l t 4 = true then some 0 else if q_wd B l t 5 = true then some 1 else if q_wd B l t 6 = true then some 2 else if q_wd B l t 7 = true then some 3 else if q_wd B l t 8 = true then some 4 else none
def q_ps (B : Nat → Int32) (l : List q_Tok) (z : Nat) : Nat → List q_Knd → List q_Ins → Nat → q_Out (List q_Knd × List q_Ins)
  | 0, _, _, t => .inl (1, t)
  | f + 1, L, Js, t => if l.length ≤ t then .inr (L, Js) else if q_wd B l t 9 = true then (match q_pi B l L Js.length z (t + 1) with
      | .inl e => .inl e
      | .inr x => q_ps B l z f L (Js ++ [x.1]) x.2) else (match q_so B l t with
      | none => .inl (1, t)
      | some so => (match q_pk B l L so (t + 1) with
        | .inl e => .inl e
        | .inr x => q_ps B l z f (L ++ [x.1]) Js x.2))
def q_pw (B : Nat → Int32) (l : List q_Tok) : q_Out Nat :=
  if q_wd B l 0 3 = true then (if (q_tok l 1).1 = 2 then (if q_vn l 1 = 8 ∨ q_vn l 1 = 16 ∨ q_vn l 1 = 32 then (if q_sgn l 2 59 = true then .inr (q_vn l 1) else .inl (1, 2)) else .inl (3, 1)) else .inl (1, 1)) else .inl (1, 0)
def q_pd (B : Nat → Int32) (l : List q_Tok) : q_Out (Nat × List q_Knd × List q_Ins) := match q_pw B l with
  | .inl e => .inl e
  | .inr z => (match q_ps B l z (l.length + 1) [] [] 3 with
    | .inl e => .inl e
    | .inr x => .inr (z, x))
def q_CIs (b n : Nat) (D : q_Mem) (Z : Nat → Nat → Option Nat) (L : List q_Knd) (z : Nat) (Js : List q_Ins) : Prop := ∀ i J, Js[i]? = some J → ∃ a, Z 10 i = some a ∧ q_CIn b n D Z L z a J
theorem q_so_le {B : Nat → Int32} {l : List q_Tok} {t so : Nat} (h : q_so B l t = some so) : so ≤ 4 := by
  unfold q_so at h
  repeat' split at h
  all_goals first | cases h | skip
  all_goals omega
theorem q_so_9 {B : Nat → Int32} {l : List q_Tok} {t : Nat} (h : q_wd B l t 9 = true) : q_so B l t = none := by
  have h1 := of_decide_eq_true h
  have h2 : ∀ i, i < 9 → 3 < i → q_wd B l t i = false := by
    intro i hi hi2
    refine decide_eq_false (fun h3 => ?_)
    have h4 : q_tt 9 = q_tt i := h1.2.symm.trans h3.2
    exact absurd h4 (by
      have : ∀ i, i < 9 → 3 < i → q_tt 9 ≠ q_tt i := by decide +kernel
      exact this i hi hi2)
  unfold q_so
  rw [h2 4 (by decide) (by decide), h2 5 (by decide) (by decide), h2 6 (by decide) (by decide), h2 7 (by decide) (by decide), h2 8 (by decide) (by decide)]
  simp
section QRA
variable {κ : Nat → Nat} {b : Nat} {B : Nat → Int32} {l : List q_Tok} {zt t : Nat} {X : Nat → Nat → Int32} {M : q_MT} {O : Nat → Int64}
theorem q_CIo_Z {n nk nk' a : Nat} {D : q_Mem} {Z Z' : Nat → Nat → Option Nat} {mn : q_Nam} {ps : List Int32} {os : q_Ops} {wc dc : Nat} {fm fd : Nat → Int64} {fs : Nat → Int32} (h : q_CIo b n D Z nk a mn ps os wc dc fm fd fs) (hk : nk ≤ nk') (hZ : ∀ k, k < nk → Z' 9 k = Z 9 k) : q_CIo b n D Z' nk' a mn ps os wc dc fm fd fs := by
  obtain ⟨k1, k2, k3, k4, k5, k6, k7, fp, fo, fk, k8, k9, k10, k11, k12⟩ := h
  refine ⟨k1, k2, k3, k4, k5, k6, k7, fp, fo, fk, k8, k9, k10, k11, fun i x hx => ?_⟩
  obtain ⟨a', y1, y2, y3, y4⟩ := k12 i x hx
  exact ⟨a', y1, y2, by rw [y3, hZ _ y4], by omega⟩
theorem q_kb_pre {L L' : List q_Knd} {os : q_Ops} {o : Nat} (h : L <+: L') (ho : (os.getD o ([], 0)).2 < L.length) : q_kb L' os o = q_kb L os o := by
  obtain ⟨K, rfl⟩ := h
  unfold q_kb q_kg
  congr 1
  generalize (os.getD o ([], 0)).2 = x at ho ⊢
  simp only [List.getD]
  rw [List.getElem?_append_left ho]
theorem q_CIn_mo {n n' z a : Nat} {D D' : q_Mem} {Z Z' : Nat → Nat → Option Nat} {L L' : List q_Knd} {J : q_Ins} (h : q_CIn b n D Z L z a J) (hn : n ≤ n') (hD : ∀ x, b < x → x < n → D' x = D x) (hL : L <+: L') (hZ : ∀ k, k < L.length → Z' 9 k = Z 9 k) : q_CIn b n' D' Z' L' z a J := by
  obtain ⟨⟨fm, fd, fs, h1, h2⟩, h3, h4, h5, h6, h7, h8⟩ := h
  have hol : ∀ o, o < J.2.2.1.length → (J.2.2.1.getD o ([], 0)).2 < L.length := by
    intro o ho
    obtain ⟨k1, k2, k3, k4, k5, k6, k7, fp, fo, fk, k8, k9, k10, k11, k12⟩ := h1
    obtain ⟨a', y1, y2, y3, y4⟩ := k12 o _ (q_og_s ho)
    exact y4
  refine ⟨⟨fm, fd, fs, q_CIo_mo (q_CIo_Z h1 hL.length_le hZ) hn hD, h2⟩, h3, h4, h5, h6, h7, fun v hv hv0 => ?_⟩
  obtain ⟨o, k, o1, o2, o3⟩ := h8 v hv hv0
  exact ⟨o, k, o1, by rw [q_kb_pre hL (hol o o1)]; exact o2, o3⟩
theorem q_sortOf {R : Nat → Nat → Option Nat} {I : Nat → Nat → Int32} {Y : Nat → Nat → Int64} {Z : Nat → Nat → Option Nat} {D : q_Mem} {s : Nat × Nat} (h : q_TC B l zt I X Y) (hK : q_Kp κ b D) (ht : t < l.length + 3) : F_X0_sortOf κ (some (b + 19)) (nI t) (q_H b (I, R, X, Y, Z) M O D, s) = some (.inl (q_mv (q_so B l t)), (q_H b (I, R, X, Y, Z) M O D, s)) := by
  have c := fun i (hi : i < q_tx.length) => q_says (κ := κ) (R := R) (Z := Z) (M := M) (O := O) (s := s) (i := i) h hK hi ht
  have c4 := c 4 (by decide)
  have c5 := c 5 (by decide)
  have c6 := c 6 (by decide)
  have c7 := c 7 (by decide)
  have c8 := c 8 (by decide)
  simp (disch := first | rfl | omega | decide | exact Nat.le_of_ble_eq_true rfl) only [↓q_br, q_rt, q_rz, q_gd, q_ca, ↓reduceIte, F_X0_sortOf, F_X0_sortOf_78, ↓q_gA_19_1, ↓q_is_2, ↓q_is_2, c4, c5, c6, c7, c8, q_b_0, q_so]
  cases q_wd B l t 4 <;> simp only [Bool.false_eq_true, Bool.true_eq_false, if_true, if_false, q_mv] <;> try rfl
  cases q_wd B l t 5 <;> simp only [Bool.false_eq_true, Bool.true_eq_false, if_true, if_false, q_mv] <;> try rfl
  cases q_wd B l t 6 <;> simp only [Bool.false_eq_true, Bool.true_eq_false, if_true, if_false, q_mv] <;> try rfl
  cases q_wd B l t 7 <;> simp only [Bool.false_eq_true, Bool.true_eq_false, if_true, if_false, q_mv] <;> try rfl
  cases q_wd B l t 8 <;> simp only [Bool.false_eq_true, Bool.true_eq_false, if_true, if_false, q_mv] <;> try rfl
theorem q_isDone_f {R : Nat → Nat → Option Nat} {I : Nat → Nat → Int32} {Y : Nat → Nat → Int64} {Z : Nat → Nat → Option Nat} {D : q_Mem} {s : Nat × Nat} (hf : ¬ I 14 2 = 0) : F_X9_isDone κ (some (b + 14)) (q_H b (I, R, X, Y, Z) M O D, s) = some (.inl 1, (q_H b (I, R, X, Y, Z) M O D, s)) := by
  simp (disch := first | rfl | omega | decide | exact Nat.le_of_ble_eq_true rfl) only [↓q_br, q_rt, q_rz, q_gd, q_ca, ↓reduceIte, F_X9_isDone, F_X9_isDone_21, F_X9_isDone_26, ↓q_gA_14_0, ↓q_gI_14_1, ↓q_gI_2_6, ↓q_is_14, ↓q_is_14, q_hasFault, hf, decide_false, Bool.not_false, q_b_0, Bool.true_eq_false, not_false_eq_true]
  rfl
end QRA
