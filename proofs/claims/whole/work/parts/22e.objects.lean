/-! ===== the line objects of the class ===== -/
abbrev q_Lx : Type := q_Lin × (Int32 × Int32 × Int32 × Int32) × (Nat → Int32)
abbrev q_xo (x : q_Lx) : Int32 := x.2.1.1
abbrev q_xf (x : q_Lx) : Int32 := x.2.1.2.1
abbrev q_xw (x : q_Lx) : Int32 := x.2.1.2.2.1
abbrev q_xa (x : q_Lx) : Int32 := x.2.1.2.2.2
abbrev q_xp (x : q_Lx) : Nat → Int32 := x.2.2
def q_Lc (a : Nat) (x : q_Lx) : q_Cel := .inr (.inl (6, [.int (nI (q_sS x.1)), .int (nI (q_sF x.1)), .int (nI (q_sH x.1)), .int (q_xo x), .ref (a + 1), .int (q_xf x), .int (q_xw x), .int (q_xa x)]))
def q_La (x : q_Lx) : q_Cel := .inl (1, (if q_sS x.1 = 1 then 5 else 0), .inl (q_xp x))
def q_LO (n0 n : Nat) (D : q_Mem) (a : Nat) (x : q_Lx) : Prop := n0 ≤ a ∧ a + 1 < n ∧ D a = some (q_Lc a x) ∧ D (a + 1) = some (q_La x)
def q_LS (n0 n : Nat) (D : q_Mem) (N : Nat) (aa : Nat → Nat) (xx : Nat → q_Lx) : Prop := ∀ i, i < N → q_LO n0 n D (aa i) (xx i) ∧ ∀ j, j < i → aa j + 1 < aa i
/-- what was there before and is no list's array stays as it was -/
def q_S8 (n0 : Nat) (D0 D : q_Mem) : Prop := ∀ x, x < n0 → q_t7 (D0 x) = false → D x = D0 x
theorem q_S8_e {n0 e cap : Nat} {D0 D : q_Mem} {f : Nat → Option Nat} (h : q_S8 n0 D0 D) (he : D e = some (.inl (7, cap, .inr (.inr (.inr (.inr f)))))) (hn : e < n0) : q_t7 (D0 e) = true := by
  cases h7 : q_t7 (D0 e) with
  | true => rfl
  | false =>
    have := h e hn h7
    rw [he] at this
    rw [← this] at h7
    simp [q_t7] at h7
theorem q_S8_f {n0 n : Nat} {D0 D D' : q_Mem} (h : q_S8 n0 D0 D) (hn : n0 ≤ n) (hD : ∀ x, x < n → q_t7 (D x) = false → D' x = D x) : q_S8 n0 D0 D' := fun x hx h7 => by
  have e := h x hx h7
  rw [hD x (by omega) (by rw [e]; exact h7), e]
theorem q_S8_up {n0 a : Nat} {D0 D : q_Mem} {c : q_Cel} (h : q_S8 n0 D0 D) (ha : n0 ≤ a) : q_S8 n0 D0 (q_up D a c) := fun x hx h7 => by rw [q_up_n _ _ (by omega), h x hx h7]
theorem q_LO_mo {n0 n n' a : Nat} {D D' : q_Mem} {x : q_Lx} (h : q_LO n0 n D a x) (hn : n ≤ n') (hD : ∀ y, y < n → q_t7 (D y) = false → D' y = D y) : q_LO n0 n' D' a x := by
  obtain ⟨h1, h2, h3, h4⟩ := h
  exact ⟨h1, by omega, by rw [hD a (by omega) (by rw [h3]; rfl), h3], by rw [hD (a + 1) (by omega) (by rw [h4]; rfl), h4]⟩
theorem q_LS_mo {n0 n n' N : Nat} {D D' : q_Mem} {aa : Nat → Nat} {xx : Nat → q_Lx} (h : q_LS n0 n D N aa xx) (hn : n ≤ n') (hD : ∀ y, y < n → q_t7 (D y) = false → D' y = D y) : q_LS n0 n' D' N aa xx := fun i hi => ⟨q_LO_mo (h i hi).1 hn hD, (h i hi).2⟩
theorem q_LS_g {n0 n N : Nat} {D : q_Mem} {aa aa' : Nat → Nat} {xx xx' : Nat → q_Lx} (h : q_LS n0 n D N aa xx) (h1 : ∀ i, i < N → aa' i = aa i) (h2 : ∀ i, i < N → xx' i = xx i) : q_LS n0 n D N aa' xx' := fun i hi => by
  rw [h1 i hi, h2 i hi]
  exact ⟨(h i hi).1, fun j hj => by rw [h1 j (by omega)]; exact (h i hi).2 j hj⟩
/-- distinct lines lie apart -/
theorem q_LS_d {n0 n N i j : Nat} {D : q_Mem} {aa : Nat → Nat} {xx : Nat → q_Lx} (h : q_LS n0 n D N aa xx) (hi : i < N) (hj : j < N) (hij : i ≠ j) : aa i ≠ aa j ∧ aa i ≠ aa j + 1 ∧ aa i + 1 ≠ aa j ∧ aa i + 1 ≠ aa j + 1 := by
  rcases Nat.lt_or_gt_of_ne hij with g | g
  · have := (h j hj).2 i g
    omega
  · have := (h i hi).2 j g
    omega
/-- a line object is written -/
theorem q_LS_o {n0 n N i : Nat} {D : q_Mem} {aa : Nat → Nat} {xx : Nat → q_Lx} {x : q_Lx} (h : q_LS n0 n D N aa xx) (hi : i < N) (hx : q_sS x.1 = q_sS (xx i).1) (hp : q_xp x = q_xp (xx i)) : q_LS n0 n (q_up D (aa i) (q_Lc (aa i) x)) N aa (q_u1 xx i x) := by
  intro j hj
  obtain ⟨⟨a1, a2, a3, a4⟩, a5⟩ := h j hj
  refine ⟨?_, a5⟩
  by_cases hij : j = i
  · subst hij
    rw [q_u1_s]
    refine ⟨a1, a2, q_up_s _ _ _, ?_⟩
    rw [q_up_n _ _ (by omega), a4]
    unfold q_La
    rw [hx, hp]
  · obtain ⟨d1, d2, d3, d4⟩ := q_LS_d h hj hi hij
    rw [q_u1_n _ _ hij]
    exact ⟨a1, a2, by rw [q_up_n _ _ d1, a3], by rw [q_up_n _ _ d3, a4]⟩
/-- the operands' places are written -/
theorem q_LS_p {n0 n N i : Nat} {D : q_Mem} {aa : Nat → Nat} {xx : Nat → q_Lx} {f : Nat → Int32} (h : q_LS n0 n D N aa xx) (hi : i < N) : q_LS n0 n (q_up D (aa i + 1) (q_La ((xx i).1, (xx i).2.1, f))) N aa (q_u1 xx i ((xx i).1, (xx i).2.1, f)) := by
  intro j hj
  obtain ⟨⟨a1, a2, a3, a4⟩, a5⟩ := h j hj
  refine ⟨?_, a5⟩
  by_cases hij : j = i
  · subst hij
    rw [q_u1_s]
    exact ⟨a1, a2, by rw [q_up_n _ _ (by omega), a3]; rfl, q_up_s _ _ _⟩
  · obtain ⟨d1, d2, d3, d4⟩ := q_LS_d h hj hi hij
    rw [q_u1_n _ _ hij]
    exact ⟨a1, a2, by rw [q_up_n _ _ d2, a3], by rw [q_up_n _ _ d4, a4]⟩
theorem q_AL_o {κ : Nat → Nat} {b n0 n : Nat} {D : q_Mem} {I : Nat → Nat → Int32} {R : Nat → Nat → Option Nat} {j cap N a : Nat} {g : Nat → Nat} {c : q_Cel} (h : q_AL κ b n D I R j cap N g) (ha : q_t7 (D a) = false) : q_AL κ b n (q_up D a c) I R j cap N g := by
  obtain ⟨h1, h2, h3, h4⟩ := h
  refine ⟨h1, h2, h3, ?_⟩
  rcases h4 with h5 | ⟨e, f, h5, h6, h7, h8, h9⟩
  · exact Or.inl h5
  · refine Or.inr ⟨e, f, h5, h6, h7, ?_, h9⟩
    rw [q_up_n _ _ (fun he => ?_), h8]
    subst he
    rw [h8] at ha
    simp [q_t7] at ha
section QNL
variable {κ : Nat → Nat} {b : Nat} {M : q_MT} {O : Nat → Int64}
/-- a new line object -/
theorem q_newLine {C : q_CT} {D : q_Mem} {n m so fi hd : Nat} (hso : so ≤ 3) (hn : b + 66 < n) : ∃ D', F_X3_init κ (some n) (nI so) (nI fi) (nI hd) (q_H b C M O (q_up D n (.inr (.inl (6, [.int 0, .int 0, .int 0, .int 0, .null, .int 0, .int 0, .int 0])))), n + 1, m) = some (.inl (), (q_H b C M O D', n + 2, m + (if so = 1 then 5 else 0))) ∧ (∀ x, x < n → D' x = D x) ∧ D' n = some (q_Lc n ((so, fi, hd, 0, 0), (-1, -1, 0, 0), fun _ => 0)) ∧ D' (n + 1) = some (q_La ((so, fi, hd, 0, 0), (-1, -1, 0, 0), fun _ => 0)) := by
  have s1 : (nI so = (1 : Int32)) ↔ so = 1 := nI_eq (b := 1) (by omega) (by decide)
  obtain ⟨D1, hD1⟩ : ∃ D1, D1 = q_up D n (.inr (.inl (6, [.int (nI so), .int (nI fi), .int (nI hd), .int (-1), .null, .int (-1), .int 0, .int 0]))) := ⟨_, rfl⟩
  have eD : b + 66 < n ∧ D1 n = some (.inr (.inl (6, [.int (nI so), .int (nI fi), .int (nI hd), .int (-1), .null, .int (-1), .int 0, .int 0]))) := ⟨hn, by rw [hD1, q_up_s]⟩
  have key : ∀ (k : Int32) (w : Nat), k = nI w → w ≤ 5 → F_X3_init_40 κ (some n) k (q_H b C M O D1, n + 1, m) = some (.inl (), (q_H b C M O (q_up (q_up D1 (n + 1) (.inl (1, w, .inl (fun _ => 0)))) n (.inr (.inl (6, [.int (nI so), .int (nI fi), .int (nI hd), .int (-1), .ref (n + 1), .int (-1), .int 0, .int 0])))), n + 2, m + w)) := by
    intro k w hk hw
    subst hk
    obtain ⟨c1, c2⟩ := q_nIc (k := w) (by omega)
    have c3 : q_nI 1 (nI w) = .inl (1, w, .inl (fun _ => 0)) := by unfold q_nI; rw [c2]
    have e2 : b + 66 < n ∧ q_up D1 (n + 1) (.inl (1, w, .inl (fun _ => 0))) n = some (.inr (.inl (6, [.int (nI so), .int (nI fi), .int (nI hd), .int (-1), .null, .int (-1), .int 0, .int 0]))) := ⟨hn, by rw [q_up_n _ _ (by omega), eD.2]⟩
    unfold F_X3_init_40
    simp only [q_gd]
    rw [if_pos ⟨c1, by rw [c2]; omega⟩, q_mk_H (by omega), c2, c3, qd_W e2 (by simp)]
    rfl
  have st : F_X3_init κ (some n) (nI so) (nI fi) (nI hd) (q_H b C M O (q_up D n (.inr (.inl (6, [.int 0, .int 0, .int 0, .int 0, .null, .int 0, .int 0, .int 0])))), n + 1, m) = q_br (¬ nI so = (1 : Int32)) (F_X3_init_40 κ (some n) (0 : Int32)) (F_X3_init_40 κ (some n) (5 : Int32)) (q_H b C M O D1, n + 1, m) := by
    unfold F_X3_init
    simp only [q_gd, reduceCtorEq, not_false_eq_true, if_true]
    rw [qd_Wu hn (by simp), qd_Wu hn (by simp), qd_Wu hn (by simp), qd_Wu hn (by simp), qd_Wu hn (by simp)]
    simp only [List.set_cons_succ, List.set_cons_zero]
    rw [hD1]
  rw [st]
  simp only [q_br, s1]
  by_cases h1 : so = 1
  · rw [if_neg (fun h => h h1), key 5 5 rfl (by decide), if_pos h1]
    refine ⟨_, rfl, fun x hx => by rw [q_up_n _ _ (by omega), q_up_n _ _ (by omega), hD1, q_up_n _ _ (by omega)], q_up_s _ _ _, ?_⟩
    rw [q_up_n _ _ (by omega), q_up_s]
    unfold q_La
    simp only [if_pos h1]
  · rw [if_pos h1, key 0 0 rfl (by decide), if_neg h1]
    refine ⟨_, rfl, fun x hx => by rw [q_up_n _ _ (by omega), q_up_n _ _ (by omega), hD1, q_up_n _ _ (by omega)], q_up_s _ _ _, ?_⟩
    rw [q_up_n _ _ (by omega), q_up_s]
    unfold q_La
    simp only [if_neg h1]
end QNL
/-- the state of a program that is being read -/
def q_PR (κ : Nat → Nat) (b n0 n : Nat) (D : q_Mem) (I : Nat → Nat → Int32) (R : Nat → Nat → Option Nat) (X : Nat → Nat → Int32) (B : Nat → Int32) (l : List q_Tok) (Ls : List q_Lin) (aa : Nat → Nat) (xx : Nat → q_Lx) (c22 c23 : Nat) : Prop :=
  q_AL κ b n D I R 22 c22 Ls.length aa ∧ q_AL κ b n D I R 23 c23 (q_LT Ls).length (fun k => aa ((q_lbs Ls).getD k 0)) ∧ q_LS n0 n D Ls.length aa xx ∧ (∀ i, i < Ls.length → (xx i).1 = Ls.getD i (0, 0, 0, 0, 0)) ∧ (∀ k, k < (q_LT Ls).length → q_xo (xx ((q_lbs Ls).getD k 0)) = q_mv (q_prev (fun k => q_hk B l ((q_LT Ls).getD k 0)) (q_hk B l ((q_LT Ls).getD k 0)) k)) ∧ (∀ g, g < 256 → X 24 g = q_mv (q_prev (fun k => q_hk B l ((q_LT Ls).getD k 0)) g (q_LT Ls).length)) ∧ ∀ e, b < e → R 22 1 = some e → ¬ R 23 1 = some e
theorem q_lbs_g {Ls : List q_Lin} {k : Nat} (hk : k < (q_LT Ls).length) : (q_lbs Ls).getD k 0 < Ls.length ∧ q_sF (Ls.getD ((q_lbs Ls).getD k 0) (0, 0, 0, 0, 0)) = (q_LT Ls).getD k 0 := by
  obtain ⟨h1, h2⟩ := q_lbs_l Ls
  have hk2 : k < (q_lbs Ls).length := by omega
  have e : (q_lbs Ls)[k]? = some ((q_lbs Ls).getD k 0) := by
    rw [List.getD_eq_getElem?_getD, List.getElem?_eq_getElem hk2]
    rfl
  exact h2 k _ e
theorem q_PR_LB {κ : Nat → Nat} {b n0 n : Nat} {D : q_Mem} {I : Nat → Nat → Int32} {R : Nat → Nat → Option Nat} {X : Nat → Nat → Int32} {B : Nat → Int32} {l : List q_Tok} {Ls : List q_Lin} {aa : Nat → Nat} {xx : Nat → q_Lx} {c22 c23 : Nat} (h : q_PR κ b n0 n D I R X B l Ls aa xx c22 c23) (hn0 : b + 66 < n0) : q_LBo b D B l (q_LT Ls) (fun k => aa ((q_lbs Ls).getD k 0)) := by
  intro k hk
  obtain ⟨g1, g2⟩ := q_lbs_g hk
  obtain ⟨⟨a1, a2, a3, a4⟩, -⟩ := h.2.2.1 _ g1
  have e1 := h.2.2.2.1 _ g1
  have e2 := h.2.2.2.2.1 k hk
  obtain ⟨i, hi⟩ : ∃ i, i = (q_lbs Ls).getD k 0 := ⟨_, rfl⟩
  rw [← hi] at a1 a2 a3 a4 e1 e2 g2
  refine ⟨.int (nI (q_sS (xx i).1)), .int (nI (q_sH (xx i).1)), .ref (aa i + 1), .int (q_xf (xx i)), .int (q_xw (xx i)), .int (q_xa (xx i)), ?_, ?_⟩
  · show b + 66 < aa ((q_lbs Ls).getD k 0)
    rw [← hi]
    omega
  · show D (aa ((q_lbs Ls).getD k 0)) = _
    rw [← hi, a3, ← e2, ← g2, ← e1]
    rfl
