/-- what comes of the lines of a program -/
def q_as2 (B : Nat → Int32) (l : List q_Tok) (L : List q_Knd) (Js : List q_Ins) (la : Nat → Int32) (wo : Nat → Int64) (Ls : List q_Lin) : q_Out (Nat × (Nat → Int32) × (Nat → Int64)) :=
  match q_ff (q_nfx B l (q_LT Ls) L Js) Ls (fun _ => 0) with
  | .inl e => .inl e
  | .inr fo => match q_set l Js (q_fit B l (q_LT Ls) L Js) (q_nfx B l (q_LT Ls) L Js) Ls 600000 1 fo (fun _ => 0) with
    | .inl e => .inl e
    | .inr y => match q_lay (q_wds Js y.1) y.2.1 (fun x w => lN (q_wv B l (q_LT Ls) L Js y.1 y.2.1 x w)) Ls la wo with
      | .inl e => .inl e
      | .inr w => .inr (y.2.2, w)
theorem q_as2_f {B : Nat → Int32} {l : List q_Tok} {L : List q_Knd} {Js : List q_Ins} {la : Nat → Int32} {wo : Nat → Int64} {Ls : List q_Lin} (h3 : ∀ x ∈ Ls, q_sS x = 3 → q_vn l (q_sH x + 2) ≤ 4096) (h0 : ∀ x ∈ Ls, ¬ q_rea x = true → q_sW x = 0) : q_as2 B l L Js la wo (Ls.filter q_rea) = q_as2 B l L Js la wo Ls := by
  unfold q_as2
  rw [q_LT_f, q_ff_f]
  split
  · rfl
  · rw [q_set_f h3 h0]
    split
    · rfl
    · rename_i y hy
      rw [q_lay_f Ls la wo (fun x hx hr => by unfold q_wds; rw [if_neg (by rw [q_rea_0 hr]; decide)]; exact h0 x hx hr)]
theorem q_ff_k {nf : q_Lin → Nat → Option Nat} : ∀ (Ls : List q_Lin) (fo : Nat → Nat) e, q_ff nf Ls fo = .inl e → e.1 = 6 := by
  intro Ls
  induction Ls with
  | nil => intro fo e h; cases h
  | cons x r ih =>
    intro fo e h
    rw [q_ff] at h
    split at h
    · split at h
      · cases h; rfl
      · exact ih _ _ h
    · exact ih _ _ h
section QWA
variable {κ : Nat → Nat} {b : Nat} {B : Nat → Int32} {l : List q_Tok} {zt : Nat} {R : Nat → Nat → Option Nat} {Z : Nat → Nat → Option Nat} {M : q_MT} {O : Nat → Int64} {s : Nat × Nat}
/-- the class, from its first forms on -/
def q_chain (κ : Nat → Nat) (b : Nat) (f : q_X Int32) : q_X Int32 := q_ca f fun v31 => q_br (v31 = 0) (F_X11_assemble_61 κ (some (b + 1))) (q_rd (q_gA (some (b + 1)) 14 5) fun v38 => q_rd (q_is v38 11) fun _ => q_ca (F_X8_settle κ v38) fun v41 => q_br (v41 = 0) (F_X11_assemble_61 κ (some (b + 1))) (q_rd (q_gA (some (b + 1)) 14 5) fun v48 => q_rd (q_is v48 11) fun _ => q_ca (F_X8_layDown κ v48) fun v51 => q_br (v51 = 0) (F_X11_assemble_61 κ (some (b + 1))) (F_X11_assemble_62 κ (some (b + 1)) (1 : Int32))))
theorem q_VA_PR {n0 n c22 c23 : Nat} {D : q_Mem} {I X : Nat → Nat → Int32} {Ls : List q_Lin} {aa : Nat → Nat} {xx : Nat → q_Lx} (h : q_PR κ b n0 n D I R X B l Ls aa xx c22 c23) : q_VA κ b n D I R c22 c23 := ⟨q_AL_W h.1, q_AL_W h.2.1, h.2.2.2.2.2.2⟩
theorem q_core {I X : Nat → Nat → Int32} {Y : Nat → Nat → Int64} {D D0 : q_Mem} {n0 n z c22 c23 : Nat} {L : List q_Knd} {Js : List q_Ins} {Ls : List q_Lin} {aa : Nat → Nat} {xx : Nat → q_Lx} (hz : z ≤ 32) (hEn : q_Env b n0 D0 Z I L z Js) (hn0 : b + 66 < n0) (hXP : ∀ x ∈ Ls, q_XP B l z x) (hre : ∀ x ∈ Ls, q_rea x = true) (hIN : q_INC Ls) (hG : q_LG B l (q_LT Ls)) (hK : (q_LT Ls).length ≤ 6000) (hLs : Ls.length ≤ 6001) (hT : q_TC B l zt I X Y) (h14 : I 14 2 = 0) (hP : q_PR κ b n0 n D I R X B l Ls aa xx c22 c23) (hF0 : q_F0 Ls xx) (hS : q_S8 n0 D0 D) (hM : q_CMm I X) :
    ∃ I' X' Y' D', (∀ j, j ≠ 11 → j ≠ 14 → j ≠ 21 → I' j = I j) ∧ (∀ j, j ≠ 13 → X' j = X j) ∧ (∀ j, j ≠ 7 → j ≠ 12 → j ≠ 25 → Y' j = Y j) ∧ q_S8 n0 D0 D' ∧ q_VA κ b n D' I' R c22 c23 ∧ q_CMm I' X' ∧ (match q_as2 B l L Js (X 13) (Y 12) Ls with
      | .inl (k, p) => q_chain κ b (F_X8_read_41 κ (some (b + 21))) (q_H b (I, R, X, Y, Z) M O D, s) = F_X11_assemble_61 κ (some (b + 1)) (q_H b (I', R, X', Y', Z) M O D', s) ∧ I' 14 2 = nI k ∧ I' 14 3 = nI p
      | .inr (rd, la, wo) => q_chain κ b (F_X8_read_41 κ (some (b + 21))) (q_H b (I, R, X, Y, Z) M O D, s) = F_X11_assemble_62 κ (some (b + 1)) 1 (q_H b (I', R, X', Y', Z) M O D', s) ∧ I' 14 = I 14 ∧ I' 21 8 = nI rd ∧ I' 23 2 = nI (q_LT Ls).length ∧ X' 13 = la ∧ Y' 12 = wo) := by
  have hzt := hT.2.2.1
  have hl := hT.2.1
  have hwf : ∀ i, i < l.length → (q_tok l i).1 ≤ 4 := fun i hi => (hT.2.2.2.2.1 i _ (q_tok_s hi)).1
  have hEn0 := hEn
  obtain ⟨hC, hCM, h84, h96, hJk⟩ := hEn0
  have hJ4 : ∀ (i : Nat) J, Js[i]? = some J → J.2.2.2.length ≤ 4 := fun i J hi => by
    obtain ⟨a, -, h2⟩ := hC i J hi
    exact h2.2.2.2.1
  have hW : ∀ fo, ∀ x ∈ Ls, q_wds Js fo x ≤ 6100 := fun fo x hx => q_wds_le hwf (by omega) (hXP x hx) hJ4
  have z0 : ((0 : Int32) = 0) = True := eq_true rfl
  have z1 : ((1 : Int32) = 0) = False := eq_false (by decide)
  obtain ⟨I1, Y1, D1, xx1, r1, r2, r3, r4, r5⟩ := q_read_43 (κ := κ) (M := M) (O := O) (s := s) hEn hn0 hXP hIN hG hK (by omega) h14 Ls.length q_fu 0 (fun _ => 0) Y D xx (by omega) (by unfold q_fu; omega) hP hS hT (fun j hj => by omega) (fun j _ hj => hF0 j hj)
  rw [List.drop_zero, nI_0] at r5
  cases hff : q_ff (q_nfx B l (q_LT Ls) L Js) Ls (fun _ => 0) with
  | inl e =>
    rw [hff] at r5
    obtain ⟨k, p⟩ := e
    obtain ⟨s1, s2, s3⟩ := r5
    have ea : q_as2 B l L Js (X 13) (Y 12) Ls = .inl (k, p) := by unfold q_as2; rw [hff]
    rw [ea]
    refine ⟨I1, X, Y1, D1, fun j _ j2 _ => r1 j j2, fun _ _ => rfl, fun j j1 _ _ => r2.1 j j1, r4, q_VA_PR r3, ⟨by rw [r1 11 (by decide)]; exact hM.1, hM.2⟩, ?_, s2, s3⟩
    have rd : F_X8_read_41 κ (some (b + 21)) (q_H b (I, R, X, Y, Z) M O D, s) = some (.inl 0, (q_H b (I1, R, X, Y1, Z) M O D1, s)) := s1
    simp (disch := first | rfl | omega | decide | exact Nat.le_of_ble_eq_true rfl) only [q_chain, q_ca, rd, ↓q_gA_1_5, ↓q_is_21, q_br, if_true]
  | inr fo =>
    rw [hff] at r5
    obtain ⟨s1, s2, s3⟩ := r5
    have rd : F_X8_read_41 κ (some (b + 21)) (q_H b (I, R, X, Y, Z) M O D, s) = some (.inl 1, (q_H b (I1, R, X, Y1, Z) M O D1, s)) := s1
    subst s2
    have hT1 := q_TC_N hT r2
    obtain ⟨I2, D2, xx2, u1, u2, u3⟩ := q_settle_2 (κ := κ) (M := M) (O := O) (s := s) (Y := Y1) hEn hn0 hXP hre hIN hG hK (by omega) hW hT1 h14 (fun j hj => (s3 j hj).2) 600000 q_fu 1 fo (fun _ => 0) D1 xx1 (by
      have := q_pot_b (N := Js.length) (fo := fo) Ls
      have h9 : Js.length * Ls.length ≤ 96 * 6001 := Nat.mul_le_mul h96 hLs
      omega) (by unfold q_fu; omega) (by omega) r3 r4 (fun j hj => (s3 j hj).1)
    have n1 : nI 1 = (1 : Int32) := rfl
    rw [n1] at u3
    cases hst : q_set l Js (q_fit B l (q_LT Ls) L Js) (q_nfx B l (q_LT Ls) L Js) Ls 600000 1 fo (fun _ => 0) with
    | inl e =>
      rw [hst] at u3
      obtain ⟨k, p⟩ := e
      obtain ⟨v1, v2, v3, v4⟩ := u3
      have ea : q_as2 B l L Js (X 13) (Y 12) Ls = .inl (k, p) := by
        unfold q_as2
        rw [hff]
        simp only [hst]
      rw [ea]
      refine ⟨I2, X, Y1, D2, fun j _ j2 _ => v2 j j2, fun _ _ => rfl, fun j j1 _ _ => r2.1 j j1, u2, q_VA_PR u1, ⟨by rw [v2 11 (by decide)]; exact hM.1, hM.2⟩, ?_, v3, v4⟩
      have se : F_X8_settle κ (some (b + 21)) (q_H b (I1, R, X, Y1, Z) M O D1, s) = some (.inl 0, (q_H b (I2, R, X, Y1, Z) M O D2, s)) := v1
      simp (disch := first | rfl | omega | decide | exact Nat.le_of_ble_eq_true rfl) only [q_chain, q_ca, rd, ↓q_gA_1_5, ↓q_is_21, q_br, z1, if_false, se, if_true]
    | inr y =>
      rw [hst] at u3
      obtain ⟨fo2, ad2, rd2⟩ := y
      obtain ⟨v1, v2, v3, v4, v5⟩ := u3
      have se : F_X8_settle κ (some (b + 21)) (q_H b (I1, R, X, Y1, Z) M O D1, s) = some (.inl 1, (q_H b (I2, R, X, Y1, Z) M O D2, s)) := v1
      have i2 : ∀ j, j ≠ 21 → I2 j = I1 j := fun j hj => by rw [v2, q_u2_n _ _ _ hj]
      have hEn2 : q_Env b n0 D0 Z I2 L z Js := ⟨hC, by unfold q_CMk at hCM ⊢; rw [i2 8 (by decide)]; exact hCM, by rw [i2 8 (by decide)]; exact h84, h96, hJk⟩
      have hT2 : q_TC B l zt I2 X Y1 := q_TC_I hT1 (by rw [i2 2 (by decide)])
      have hB := q_set_b (Js := Js) (fit := q_fit B l (q_LT Ls) L Js) (nf := q_nfx B l (q_LT Ls) L Js) hIN (fun x hx hs => by
        have h9 := q_XP_3 hT.2.2.2.2.1 (hXP x hx) hs
        obtain ⟨LT9, t9, ht9, hx9⟩ := hXP x hx
        exact ⟨by omega, (q_ln1_b hwf hx9 ht9).2.2.2.2.2.2.2.2.2.2.2 (by omega)⟩) 600000 1 fo (fun _ => 0) fo2 ad2 rd2 hst
      obtain ⟨I3, X3, Y3, w1, w2, w3, w4, w5⟩ := q_layD_2 (κ := κ) (M := M) (O := O) (s := s) (Z := Z) hn0 hz hXP hK (by omega) u2 v3 v4 (fun x hx => hB x hx (hre x hx)) Ls.length q_fu 0 I2 X Y1 (X 13) (Y 12) (by omega) (by unfold q_fu; omega) hEn2 u1 hT2 (fun j hj => (s3 j hj).2) ⟨by rw [i2 11 (by decide)]; exact hM.1, hM.2⟩ rfl (r2.1 12 (by decide))
      rw [List.drop_zero, nI_0] at w5
      have va : q_VA κ b n D2 I3 R c22 c23 := by
        have h9 := q_VA_PR u1
        exact q_VA_mo h9 (Nat.le_refl _) (fun _ _ => rfl) (by rw [w1 22 (by decide) (by decide)]) (by rw [w1 23 (by decide) (by decide)]) rfl rfl
      have fI : ∀ j, j ≠ 11 → j ≠ 14 → j ≠ 21 → I3 j = I1 j := fun j j1 j2 j3 => by rw [w1 j j1 j2, i2 j j3]
      have fY : ∀ j, j ≠ 7 → j ≠ 12 → j ≠ 25 → Y3 j = Y j := fun j j1 j2 j3 => by rw [w3 j j2 j3, r2.1 j j1]
      cases hly : q_lay (q_wds Js fo2) ad2 (fun x w => lN (q_wv B l (q_LT Ls) L Js fo2 ad2 x w)) Ls (X 13) (Y 12) with
      | inl e =>
        rw [hly] at w5
        obtain ⟨k, p⟩ := e
        obtain ⟨x1, x2, x3⟩ := w5
        have ea : q_as2 B l L Js (X 13) (Y 12) Ls = .inl (k, p) := by
          unfold q_as2
          rw [hff]
          simp only [hst, hly]
        rw [ea]
        refine ⟨I3, X3, Y3, D2, fI, w2, fY, u2, va, w4, ?_, x2, x3⟩
        have ld : F_X8_layDown κ (some (b + 21)) (q_H b (I2, R, X, Y1, Z) M O D2, s) = some (.inl 0, (q_H b (I3, R, X3, Y3, Z) M O D2, s)) := x1
        simp (disch := first | rfl | omega | decide | exact Nat.le_of_ble_eq_true rfl) only [q_chain, q_ca, rd, ↓q_gA_1_5, ↓q_is_21, q_br, z1, if_false, se, ld, if_true]
      | inr w =>
        rw [hly] at w5
        obtain ⟨la, wo⟩ := w
        obtain ⟨x1, x2, x3, x4⟩ := w5
        have ea : q_as2 B l L Js (X 13) (Y 12) Ls = .inr (rd2, la, wo) := by
          unfold q_as2
          rw [hff]
          simp only [hst, hly]
        rw [ea]
        refine ⟨I3, X3, Y3, D2, fI, w2, fY, u2, va, w4, ?_, by rw [x2, i2 14 (by decide)], by rw [w1 21 (by decide) (by decide), v2, q_u2_s, q_u1_s], by rw [w1 23 (by decide) (by decide)]; exact u1.2.1.1, x3, x4⟩
        have ld : F_X8_layDown κ (some (b + 21)) (q_H b (I2, R, X, Y1, Z) M O D2, s) = some (.inl 1, (q_H b (I3, R, X3, Y3, Z) M O D2, s)) := x1
        simp (disch := first | rfl | omega | decide | exact Nat.le_of_ble_eq_true rfl) only [q_chain, q_ca, rd, ↓q_gA_1_5, ↓q_is_21, q_br, z1, if_false, se, ld]
end QWA
