section QRI
variable {κ : Nat → Nat} {b : Nat} {B : Nat → Int32} {l : List q_Tok} {zt : Nat} {Y : Nat → Nat → Int64} {Z : Nat → Nat → Option Nat} {M : q_MT} {O : Nat → Int64}
theorem q_AL_lt {n : Nat} {D D' : q_Mem} {I : Nat → Nat → Int32} {R : Nat → Nat → Option Nat} {j cap N e : Nat} {g : Nat → Nat} (h : q_AL κ b n D I R j cap N g) (hK : q_Kp κ b D') (hn : b + 66 < n) (he : R j 1 = some e) : e < n := by
  rcases h.2.2.2 with ⟨h5, -⟩ | ⟨e', f, h5, h6, h7, -⟩
  · rw [he] at h5
    have := Option.some.inj h5
    have := hK.2.2
    omega
  · rw [he] at h5
    have := Option.some.inj h5
    omega
/-- the array of one list stays when the other one's is written -/
theorem q_AL_oth {n n' : Nat} {D D' : q_Mem} {I I' : Nat → Nat → Int32} {R R' : Nat → Nat → Option Nat} {j k cap N : Nat} {g : Nat → Nat} (h : q_AL κ b n D I R j cap N g) (hK : q_Kp κ b D) (hn : n ≤ n') (hI : I' j = I j) (hR : R' j = R j) (hd : ∀ e, b < e → R j 1 = some e → ¬ R k 1 = some e) (h1 : ∀ x, x < n → ¬ R k 1 = some x → D' x = D x) (h2 : ∀ x, x < n → q_t7 (D x) = false → D' x = D x) : q_AL κ b n' D' I' R' j cap N g := by
  refine q_AL_mo h hn (by rw [hI]) (by rw [hR]) (fun x hx hxe => ?_)
  by_cases hb : b < x
  · exact h1 x hx (hd x hb hxe)
  · refine h2 x hx ?_
    rcases h.2.2.2 with ⟨h5, -⟩ | ⟨e', f, h5, h6, h7, -⟩
    · rw [hxe] at h5
      rw [Option.some.inj h5, hK.2.1]
      rfl
    · rw [hxe] at h5
      have := Option.some.inj h5
      omega
theorem q_LS_cl {n0 n N : Nat} {D : q_Mem} {aa : Nat → Nat} {xx : Nat → q_Lx} (h : q_LS n0 n D N aa xx) (hn : b + 66 < n0) : ∀ i, i < N → ∃ fs, b + 66 < aa i ∧ aa i < n ∧ D (aa i) = some (.inr (.inl (6, fs))) := fun i hi => by
  obtain ⟨⟨a1, a2, a3, -⟩, -⟩ := h i hi
  exact ⟨_, by omega, by omega, a3⟩
theorem q_line97 {I : Nat → Nat → Int32} {R : Nat → Nat → Option Nat} {X : Nat → Nat → Int32} {D D0 : q_Mem} {n0 n m c22 c23 so t h : Nat} {Ls : List q_Lin} {aa : Nat → Nat} {xx : Nat → q_Lx} {lab : Bool} (hP : q_PR κ b n0 n D I R X B l Ls aa xx c22 c23) (hn0 : b + 66 < n0) (hn : n0 ≤ n) (hT : q_TC B l zt I X Y) (hK : q_Kp κ b D) (hS : q_S8 n0 D0 D) (hso : so ≤ 3) (hl1 : lab = true → ¬ t = h ∧ t < l.length) (hl0 : lab = false → t = h) (hN : Ls.length ≤ 6000) :
    ∃ I1 R1 X1 D1 n1 m1 d22 d23 ol, F_X8_readLine_97 κ (some (b + 21)) (nI t) (q_b lab) (nI h) (nI so) (q_H b (I, R, X, Y, Z) M O D, n, m) = F_X8_readLine_130 κ (some (b + 21)) (some n) (q_H b (I1, R1, X1, Y, Z) M O D1, n1, m1) ∧ (∀ j, j ≠ 22 → j ≠ 23 → I1 j = I j) ∧ (∀ j, j ≠ 22 → j ≠ 23 → R1 j = R j) ∧ (∀ j, j ≠ 24 → X1 j = X j) ∧ n + 2 ≤ n1 ∧ m ≤ m1 ∧ n1 + c22 + c23 ≤ n + 2 + d22 + d23 ∧ m1 + 4 * (c22 + c23) ≤ m + 13 + 4 * (d22 + d23) ∧ q_S8 n0 D0 D1 ∧ q_Kp κ b D1 ∧ q_PR κ b n0 n1 D1 I1 R1 X1 B l (Ls ++ [(so, t, h, 0, 0)]) (q_u1 aa Ls.length n) (q_u1 xx Ls.length ((so, t, h, 0, 0), (ol, -1, 0, 0), fun _ => 0)) d22 d23 := by
  obtain ⟨p1, p2, p3, p4, p5, p6, p7⟩ := hP
  have hnb : b + 66 < n := by omega
  obtain ⟨Da, a1, a2, a3, a4⟩ := q_newLine (κ := κ) (b := b) (M := M) (O := O) (C := (I, R, X, Y, Z)) (D := D) (n := n) (m := m + 8) (fi := t) (hd := h) hso hnb
  have Ka : q_Kp κ b Da := q_Kp_D hK (fun x hx => a2 x (by omega))
  have lsA : q_LS n0 (n + 2) Da Ls.length aa xx := q_LS_mo p3 (by omega) (fun y hy _ => a2 y hy)
  have alA : q_AL κ b (n + 2) Da I R 22 c22 Ls.length aa := q_AL_mo p1 (by omega) rfl rfl (fun x hx _ => a2 x hx)
  have alB : q_AL κ b (n + 2) Da I R 23 c23 (q_LT Ls).length (fun k => aa ((q_lbs Ls).getD k 0)) := q_AL_mo p2 (by omega) rfl rfl (fun x hx _ => a2 x hx)
  obtain ⟨I1, R1, Db, n1, m1, d22, b1, b2, b3, b4, b5, b6, b7, b8, b9, b10, b11⟩ := q_add22 (κ := κ) (b := b) (X := X) (Y := Y) (Z := Z) (M := M) (O := O) (m := m + 8 + (if so = 1 then 5 else 0)) Ka (by omega) alA (by omega) ⟨hnb, a3⟩ (by omega) (q_LS_cl lsA hn0)
  have w5 : (if so = 1 then 5 else 0) ≤ 5 := by split <;> omega
  have Kb : q_Kp κ b Db := by
    obtain ⟨k1, k2, k3⟩ := Ka
    refine ⟨fun i hi => ?_, ?_, k3⟩
    · obtain ⟨e1, e2, e3, e4⟩ := k1 i hi
      exact ⟨by rw [b6 _ (by omega) (by rw [e1]; rfl), e1], e2, by rw [b6 _ (by omega) (by rw [e3]; rfl), e3], e4⟩
    · rw [b6 _ (by omega) (by rw [k2]; rfl), k2]
  have lsB : q_LS n0 n1 Db Ls.length aa xx := q_LS_mo lsA b7 b6
  have nB : Db n = some (q_Lc n ((so, t, h, 0, 0), (-1, -1, 0, 0), fun _ => 0)) := by rw [b6 n (by omega) (by rw [a3]; rfl), a3]
  have nB1 : Db (n + 1) = some (q_La ((so, t, h, 0, 0), (-1, -1, 0, 0), fun _ => 0)) := by rw [b6 (n + 1) (by omega) (by rw [a4]; rfl), a4]
  have alB1 : q_AL κ b n1 Db I1 R1 23 c23 (q_LT Ls).length (fun k => aa ((q_lbs Ls).getD k 0)) := q_AL_oth (k := 22) alB Ka b7 (b2 23 (by decide)) (b3 23 (by decide)) (fun e he h1 h2 => p7 e he h2 h1) b5 b6
  have S8b : q_S8 n0 D0 Db := fun x hx h7 => by
    have e := hS x hx h7
    rw [b6 x (by omega) (by rw [a2 x (by omega), e]; exact h7), a2 x (by omega), e]
  have r23 : R1 23 = R 23 := b3 23 (by decide)
  have dist1 : ∀ e, b < e → R1 22 1 = some e → ¬ R1 23 1 = some e := fun e he h1 h2 => by
    rw [r23] at h2
    rcases b11 with h9 | h9
    · rw [h9] at h1
      exact p7 e he h1 h2
    · rw [h9] at h1
      have := Option.some.inj h1
      have := q_AL_lt p2 hK hnb h2
      omega
  have inl : ∀ (ol : Int32) (Dx : q_Mem) (nx : Nat), n1 ≤ nx → (∀ y, y < n1 → q_t7 (Db y) = false → y ≠ n → Dx y = Db y) → Dx n = some (q_Lc n ((so, t, h, 0, 0), (ol, -1, 0, 0), fun _ => 0)) → q_LS n0 nx Dx (Ls.length + 1) (q_u1 aa Ls.length n) (q_u1 xx Ls.length ((so, t, h, 0, 0), (ol, -1, 0, 0), fun _ => 0)) := by
    intro ol Dx nx hnx hx hxn i hi
    by_cases hil : i = Ls.length
    · subst hil
      rw [q_u1_s, q_u1_s]
      refine ⟨⟨hn, by omega, hxn, ?_⟩, fun j hj => ?_⟩
      · rw [hx (n + 1) (by omega) (by rw [nB1]; rfl) (by omega), nB1]
        rfl
      · rw [q_u1_n _ _ (by omega)]
        have := (p3 j hj).1.2.1
        omega
    · rw [q_u1_n _ _ hil, q_u1_n _ _ hil]
      obtain ⟨⟨c1, c2, c3, c4⟩, c5⟩ := lsB i (by omega)
      have cn := (p3 i (by omega)).1.2.1
      refine ⟨⟨c1, by omega, by rw [hx _ (by omega) (by rw [c3]; rfl) (by omega), c3], by rw [hx _ (by omega) (by rw [c4]; rfl) (by omega), c4]⟩, fun j hj => ?_⟩
      rw [q_u1_n _ _ (by omega)]
      exact c5 j hj
  have len1 : (Ls ++ [(so, t, h, 0, 0)]).length = Ls.length + 1 := by simp
  have first : ∀ ol : Int32, ∀ i, i < (Ls ++ [(so, t, h, 0, 0)]).length → (q_u1 xx Ls.length ((so, t, h, 0, 0), (ol, -1, 0, 0), fun _ => 0) i).1 = (Ls ++ [(so, t, h, 0, 0)]).getD i (0, 0, 0, 0, 0) := by
    intro ol i hi
    rw [len1] at hi
    by_cases hil : i = Ls.length
    · subst hil
      rw [q_u1_s, List.getD_eq_getElem?_getD, List.getElem?_append_right (Nat.le_refl _), Nat.sub_self]
      rfl
    · rw [q_u1_n _ _ hil, p4 i (by omega), List.getD_eq_getElem?_getD, List.getD_eq_getElem?_getD, List.getElem?_append_left (by omega)]
  have road : F_X8_readLine_97 κ (some (b + 21)) (nI t) (q_b lab) (nI h) (nI so) (q_H b (I, R, X, Y, Z) M O D, n, m) = q_br (q_b lab = 0) (F_X8_readLine_130 κ (some (b + 21)) (some n)) (q_rd (q_is (some (b + 21)) 11) fun _ => q_ca (F_X8_addLabel κ (some (b + 21)) (some n)) fun _v127 => F_X8_readLine_130 κ (some (b + 21)) (some n)) (q_H b (I1, R1, X, Y, Z) M O Db, n1, m1) := by
    unfold F_X8_readLine_97
    rw [q_mk_H hnb]
    simp (disch := first | rfl | omega | decide | exact Nat.le_of_ble_eq_true rfl) only [q_gd, reduceCtorEq, not_false_eq_true, ↓reduceIte, q_ca, a1, ↓q_gA_21_4, ↓q_is_22, b1]
  rw [road]
  cases lab with
  | false =>
    have th := hl0 rfl
    have nl : q_lab (so, t, h, 0, 0) = false := by unfold q_lab; simp [th]
    refine ⟨I1, R1, X, Db, n1, m1, d22, c23, -1, ?_, fun j j1 j2 => b2 j j1, fun j j1 j2 => b3 j j1, fun _ _ => rfl, b7, by omega, by omega, by omega, S8b, Kb, ⟨by rw [len1]; exact b4, ?_, by rw [len1]; exact inl (-1) Db n1 (Nat.le_refl _) (fun _ _ _ _ => rfl) nB, first (-1), ?_, ?_, dist1⟩⟩
    · have z0 : (q_b false = 0) = True := eq_true rfl
      simp only [q_br, z0, if_true]
    · rw [q_LT_a, nl, if_neg (by decide), q_lbs_a, nl, if_neg (by decide)]
      refine q_AL_g alB1 (fun k hk => ?_)
      have := (q_lbs_g hk).1
      rw [q_u1_n _ _ (by omega)]
    · rw [q_LT_a, nl, if_neg (by decide), q_lbs_a, nl, if_neg (by decide)]
      intro k hk
      have := (q_lbs_g hk).1
      rw [q_u1_n _ _ (by omega)]
      exact p5 k hk
    · rw [q_LT_a, nl, if_neg (by decide)]
      exact p6
  | true =>
    obtain ⟨th, tl⟩ := hl1 rfl
    have nl : q_lab (so, t, h, 0, 0) = true := by unfold q_lab; simp [th]
    have hT1 : q_TC B l zt I1 X Y := q_TC_I hT (by rw [b2 2 (by decide)])
    obtain ⟨hlb1, hlb2⟩ := q_lbs_l Ls
    obtain ⟨K, hKe⟩ : ∃ K, K = (q_LT Ls).length := ⟨_, rfl⟩
    have Kle : K ≤ Ls.length := by
      rw [hKe]
      unfold q_LT
      rw [List.length_map]
      exact List.length_filter_le _ _
    rw [← hKe] at alB1
    obtain ⟨I2, R2, Dc, n2, m2, d23, c1, c2, c3, c4, c5, c6, c7, c8, c9, c10, c11, c12⟩ := q_addLabel (κ := κ) (b := b) (Z := Z) (M := M) (O := O) (m := m1) (a := n) (x := ((so, t, h, 0, 0), (-1, -1, 0, 0), fun _ => 0)) hT1 Kb (by omega) tl ⟨hnb, by omega⟩ nB alB1 (by omega) (fun k hk => by
      obtain ⟨fs, f1, f2, f3⟩ := q_LS_cl lsB hn0 _ (q_lbs_g (Ls := Ls) (k := k) (by omega)).1
      exact ⟨fs, f1, f2, f3⟩)
    obtain ⟨hk, hhk⟩ : ∃ hk, hk = q_hk B l t := ⟨_, rfl⟩
    have hk256 : hk < 256 := by rw [hhk]; exact q_hb_lt _
    have ltA : q_LT (Ls ++ [(so, t, h, 0, 0)]) = q_LT Ls ++ [t] := by rw [q_LT_a, nl, if_pos rfl]
    have lbA : q_lbs (Ls ++ [(so, t, h, 0, 0)]) = q_lbs Ls ++ [Ls.length] := by rw [q_lbs_a, nl, if_pos rfl]
    have ltl : (q_LT Ls ++ [t]).length = K + 1 := by rw [List.length_append, ← hKe]; rfl
    have hkf : ∀ k, k < K → q_hk B l ((q_LT Ls ++ [t]).getD k 0) = q_hk B l ((q_LT Ls).getD k 0) := fun k hk => by rw [q_getD_a (by omega)]
    have hkK : q_hk B l ((q_LT Ls ++ [t]).getD K 0) = hk := by rw [hKe, q_getD_e, hhk]
    have pvc : ∀ g k, k ≤ K → q_prev (fun k => q_hk B l ((q_LT Ls ++ [t]).getD k 0)) g k = q_prev (fun k => q_hk B l ((q_LT Ls).getD k 0)) g k := fun g k hk => q_prev_c k (fun j hj => hkf j (by omega))
    refine ⟨I2, R2, q_u2 X 24 hk (nI K), Dc, n2, m2, d22, d23, X 24 hk, ?_, fun j j1 j2 => by rw [c2 j j2, b2 j j1], fun j j1 j2 => by rw [c3 j j2, b3 j j1], fun j j1 => q_u2_n _ _ _ j1, by omega, by omega, by omega, by omega, ?_, ?_, ⟨?_, ?_, ?_, first _, ?_, ?_, ?_⟩⟩
    · have z0 : (q_b true = 0) = False := eq_false (by decide)
      rw [hhk]
      simp (disch := first | rfl | omega | decide | exact Nat.le_of_ble_eq_true rfl) only [q_br, z0, if_false, ↓q_is_21, q_ca, c1]
    · intro x hx h7
      have e := S8b x hx h7
      rw [c5 x (by omega) (by rw [e]; exact h7) (by omega), e]
    · obtain ⟨k1, k2, k3⟩ := Kb
      refine ⟨fun i hi => ?_, ?_, k3⟩
      · obtain ⟨e1, e2, e3, e4⟩ := k1 i hi
        exact ⟨by rw [c5 _ (by omega) (by rw [e1]; rfl) (by omega), e1], e2, by rw [c5 _ (by omega) (by rw [e3]; rfl) (by omega), e3], e4⟩
      · rw [c5 _ (by omega) (by rw [k2]; rfl) (by omega), k2]
    · rw [len1]
      refine q_AL_mo b4 c8 (by rw [c2 22 (by decide)]) (by rw [c3 22 (by decide)]) (fun x hx hxe => ?_)
      rcases b4.2.2.2 with ⟨h5, -⟩ | ⟨e, f, h5, h6, h7, h8, -⟩
      · rw [hxe] at h5
        have hx9 := Option.some.inj h5
        have hk9 := hK.2.2
        exact c5 x hx (by rw [hx9, Kb.2.1]; rfl) (by omega)
      · rw [hxe] at h5
        have hx9 := Option.some.inj h5
        subst hx9
        have hxn : x ≠ n := by
          rintro rfl
          rw [nB] at h8
          unfold q_Lc at h8
          cases h8
        exact c7 x hx (dist1 x (by omega) hxe) hxn
    · rw [ltA, ltl, lbA]
      refine q_AL_g c4 (fun k hk => ?_)
      by_cases hkk : k = K
      · subst hkk
        rw [q_u1_s, hKe, ← hlb1, q_getD_e, q_u1_s]
      · rw [q_u1_n _ _ hkk, q_getD_a (by omega), q_u1_n _ _ (by have := (q_lbs_g (Ls := Ls) (k := k) (by omega)).1; omega)]
    · rw [len1]
      refine inl _ Dc n2 c8 (fun y hy h7 hyn => c5 y hy h7 hyn) ?_
      rw [c6, hhk]
    · rw [ltA, ltl, lbA]
      intro k hk9
      by_cases hkk : k = K
      · subst hkk
        rw [hKe, ← hlb1, q_getD_e, q_u1_s, hlb1, ← hKe, hkK, pvc _ _ (Nat.le_refl _)]
        show X 24 hk = _
        rw [p6 hk hk256, hKe]
      · rw [q_getD_a (by omega), q_u1_n _ _ (by have := (q_lbs_g (Ls := Ls) (k := k) (by omega)).1; omega), q_getD_a (by omega), pvc _ _ (by omega)]
        exact p5 k (by omega)
    · rw [ltA, ltl]
      intro g hg
      rw [q_prev, hkK, pvc _ _ (Nat.le_refl _), q_u2_s]
      by_cases hgk : hk = g
      · subst hgk
        rw [if_pos rfl, q_u1_s]
        rfl
      · rw [if_neg hgk, q_u1_n _ _ (Ne.symm hgk), p6 g hg, hKe]
    · intro e he h1 h2
      rw [c3 22 (by decide)] at h1
      rcases c12 with h9 | h9
      · rw [h9] at h2
        exact dist1 e he h1 h2
      · rw [h9] at h2
        have := Option.some.inj h2
        have := q_AL_lt b4 Kb (by omega) h1
        omega
end QRI
