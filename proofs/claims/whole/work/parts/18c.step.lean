def q_Step (κ : Nat → Nat) (b : Nat) {α : Type} (f : q_X Int32) (g : q_X α) (tl : α → Int64) : Prop := ∀ (C : q_CT) (M : q_MT) (O : Nat → Int64) (D : q_Mem) (n m c22 c23 : Nat), q_VI κ b C M D n c22 c23 → ∃ (k : Int32) (v : α) (C1 : q_CT) (O1 : Nat → Int64) (D1 : q_Mem) (n1 m1 : Nat) (P2 : Nat → Int32) (Q2 : Nat → Nat → Int32) (S2 : Nat → Nat → Int64) (D2 : q_Mem) (n2 m2 d22 d23 : Nat), f (q_H b C M O D, n, m) = some (.inl k, (q_H b C1 M O1 D1, n1, m1)) ∧ g (q_H b C1 M O1 D1, n1, m1) = some (.inl v, (q_H b C1 (P2, Q2, S2) O1 D2, n2, m2)) ∧ P2 7 = k ∧ (k = 0 → O1 0 = tl v) ∧ q_VI κ b C1 (P2, Q2, S2) D2 n2 d22 d23 ∧ n ≤ n2 ∧ m ≤ m2 ∧ n2 + c22 + c23 ≤ n + 8000 + d22 + d23 ∧ m2 + 4 * (c22 + c23) ≤ m + 90000 + 4 * (d22 + d23)
section QSC
variable {κ : Nat → Nat} {b : Nat} {β : Type}
theorem q_sO {C : q_CT} {M : q_MT} {O : Nat → Int64} {D : q_Mem} {s : Nat × Nat} {f : q_X β} {v : Int64} : q_wr (q_sL (some (b + 66)) 0 v) f (q_H b C M O D, s) = f (q_H b C M (q_u1 O 0 v) D, s) := by
  have := q_sL_66 (b := b) (C := C) (M := M) (O := O) (D := D) (s := s) (f := f) (v := v) (i := 0) (by decide)
  rw [nI_0] at this
  exact this
theorem q_lO {C : q_CT} {M : q_MT} {O : Nat → Int64} {D : q_Mem} {s : Nat × Nat} {f : Int64 → q_X β} : q_rd (q_lL (some (b + 66)) 0) f (q_H b C M O D, s) = f (O 0) (q_H b C M O D, s) := by
  have := q_lL_66 (b := b) (C := C) (M := M) (O := O) (D := D) (s := s) (f := f) (i := 0) (by decide)
  rw [nI_0] at this
  exact this
theorem q_VA_mo {D D' : q_Mem} {I I' : Nat → Nat → Int32} {R R' : Nat → Nat → Option Nat} {n n' c22 c23 : Nat} (h : q_VA κ b n D I R c22 c23) (hn : n ≤ n') (hD : ∀ x, x < n → D' x = D x) (hI22 : I' 22 2 = I 22 2) (hI23 : I' 23 2 = I 23 2) (h22 : R' 22 1 = R 22 1) (h23 : R' 23 1 = R 23 1) : q_VA κ b n' D' I' R' c22 c23 := by
  obtain ⟨h1, h2, h3⟩ := h
  have aw : ∀ j cap, I' j 2 = I j 2 → R' j 1 = R j 1 → q_AW κ b n D I R j cap → q_AW κ b n' D' I' R' j cap := by
    intro j cap e1 e2 h
    obtain ⟨k, h1, h2, h3, h4⟩ := h
    refine ⟨k, by rw [e1, h1], h2, h3, ?_⟩
    rw [e2]
    rcases h4 with h5 | ⟨e, h5, h6, h7, g, h8⟩
    · exact Or.inl h5
    · exact Or.inr ⟨e, h5, h6, by omega, g, by rw [hD e h7, h8]⟩
  exact ⟨aw 22 c22 hI22 h22 h1, aw 23 c23 hI23 h23 h2, by rw [h22, h23]; exact h3⟩
theorem q_step_describe : q_Step κ b (F_L_describe κ (some (b + 1)) (some (b + 66))) (F_X13_describe κ (some (b + 26))) (fun v => v.toInt64) := by
  rintro ⟨I, R, X, Y, Z⟩ ⟨P, Q, S⟩ O D n m c22 c23 ⟨hK, hn, ⟨zt, t1, t2, t3, t4⟩, hk, hp, hlb, hrd, ⟨z, L, Js, hD, m1, m2, m3⟩, ⟨l1, l2⟩, hA⟩
  obtain ⟨I1, R1, X1, Y1, Z1, D1, n1, s1, a1, a2, a3, a4, a5, a6, a7, a8, a9, a10, a11, a12, a13, a14, a15⟩ := q_X11_describe (κ := κ) (b := b) (M := (P, Q, S)) (O := O) (zt := zt) (n := n) (m := m) (I := I) (R := R) (X := X) (Y := Y) (Z := Z) hK t1 t2 (fun i hi => (t4 i hi).2) hn m1 (q_lc_le _) (q_lc_z _) hA
  have vt0 : ∀ (P2 : Nat → Int32) (Q2 : Nat → Nat → Int32), P2 3 = 0 → ∃ zt, q_VT I1 X1 P2 Q2 zt := fun P2 Q2 h => ⟨0, by decide, by rw [a2]; rfl, by rw [h]; rfl, fun i hi => by omega⟩
  have vm0 : ∀ (P2 : Nat → Int32) (Q2 : Nat → Nat → Int32) (S2 : Nat → Nat → Int64) (z : Nat), P2 42 = 0 → (∀ v, v < 4096 → Q2 54 v = 0) → q_VM I1 X1 Y1 P2 Q2 S2 z := fun P2 Q2 S2 z h1 h2 => by
    have e := q_lc_0 4096 a14
    refine ⟨by rw [e, a11]; rfl, by rw [e, h1]; rfl, fun i hi => ⟨by rw [h2 i hi, a14 i hi], Or.inl (a14 i hi), fun h9 => ?_⟩⟩
    rw [a14 i hi] at h9
    exact absurd h9 (by decide)
  have vl : ∀ (P2 : Nat → Int32) (Q2 : Nat → Nat → Int32), P2 4 = P 4 → P2 8 = P 8 → Q2 29 = Q 29 → q_VL I1 X1 P2 Q2 := fun P2 Q2 e1 e2 e3 => by
    obtain ⟨k, k1, k2, k3, k4⟩ := l2
    have i15 : I1 15 = I 15 := a1 15 (by decide) (by decide) (by decide) (by decide) (by decide) (by decide) (by decide) (by decide)
    have x18 : X1 18 = X 18 := a3 18 (by decide) (by decide) (by decide) (by decide) (by decide)
    exact ⟨by rw [i15, e2, l1], k, k1, by rw [i15, k2], by rw [e1, k3], by rw [e3, x18]; exact k4⟩
  have hT : (RX12 = RX12) := rfl
  cases hq : q_pd (X 3) (q_sc false (X 3) zt zt 0) with
  | inl e =>
    obtain ⟨k, p⟩ := e
    rw [hq] at a15
    obtain ⟨c1, c2, c3, c4, c5, c6⟩ := a15
    obtain ⟨P2, Q2, S2, D2, n2, s2, r, d1, d2, d3, d4, d5, d6, d7, d8, d9, d10, d11, d12, d13⟩ := q_mdescribe (κ := κ) (b := b) (C := (I1, R1, X1, Y1, Z1)) (O := O) (n := n1 + 1) (m := s1 + 6) (zt := zt) (B := X 3) (S := S) (D := D1) (P := P) (Q := Q) a5 t1 t3 (fun i hi => by rw [(t4 i hi).1]; exact (t4 i hi).2) (fun i hi => (t4 i hi).1) (by omega)
    rw [hq] at d13
    obtain ⟨e1, e2, e3, e4, e5⟩ := d13
    refine ⟨1, r, (I1, R1, X1, Y1, Z1), O, D1, n1 + 1, s1 + 6, P2, Q2, S2, D2, n2, s2, c22, c23, ?_, d1, e4, fun h9 => absurd h9 (by decide), ⟨q_Kp_D a5 (fun x hx => d5 x (by omega)), by omega, vt0 P2 Q2 d10, by rw [c2, e2], by rw [c3, e3], by rw [a13, d11 43 (by decide) (by decide)], by rw [a12, d11 44 (by decide) (by decide)], ⟨0, [], [], ⟨Or.inl ⟨rfl, rfl, rfl⟩, by rw [c4]; rfl, by rw [e5 21 (by decide) (by decide)]; rfl, ⟨by rw [c5]; rfl, by simp, fun k K hk => by simp at hk⟩, fun i J hi => by simp at hi, by rw [c6]; rfl, by simp, by rw [e5 23 (by decide) (by decide)]; rfl, ⟨[], 0, ⟨by rw [e5 19 (by decide) (by decide)]; rfl, by rw [e5 20 (by decide) (by decide)]; rfl, by simp, by simp, by simp, fun w nm hw => by simp at hw⟩, ⟨by rw [e5 22 (by decide) (by decide)]; rfl, by simp, fun k K hk => by simp at hk⟩, fun i J hi => by simp at hi⟩, fun J hJ => by simp at hJ⟩, vm0 P2 Q2 S2 0 (d11 42 (by decide) (by decide)) d12⟩, vl P2 Q2 (d2 4 (by omega) (by omega) (by omega) (by omega) (by omega)) (d2 8 (by omega) (by omega) (by omega) (by omega) (by omega)) (d3 29 (by omega)), q_VA_mo a6 (by omega) (fun x hx => d5 x (by omega)) rfl rfl rfl rfl⟩, by omega, by omega, by omega, by omega⟩
    simp (disch := first | rfl | omega | decide | exact Nat.le_of_ble_eq_true rfl) only [F_L_describe, ↓q_is_1, q_cc, c1, ↓q_br, ↓reduceIte, q_rt]
  | inr e =>
    obtain ⟨z, L, Js⟩ := e
    rw [hq] at a15
    obtain ⟨c1, c2, c3, c4, c5, c6, c7, c8, c9⟩ := a15
    obtain ⟨P2, Q2, S2, D2, n2, s2, r, d1, d2, d3, d4, d5, d6, d7, d8, d9, d10, d11, d12, d13⟩ := q_mdescribe (κ := κ) (b := b) (C := (I1, R1, X1, Y1, Z1)) (O := q_u1 O 0 (nI Js.length).toInt64) (n := n1) (m := s1) (zt := zt) (B := X 3) (S := S) (D := D1) (P := P) (Q := Q) a5 t1 t3 (fun i hi => by rw [(t4 i hi).1]; exact (t4 i hi).2) (fun i hi => (t4 i hi).1) (by omega)
    rw [hq] at d13
    obtain ⟨e1, e2, e3, e4, e5, e6, N, top, e7, e8, e9⟩ := d13
    refine ⟨0, r, (I1, R1, X1, Y1, Z1), q_u1 O 0 (nI Js.length).toInt64, D1, n1, s1, P2, Q2, S2, D2, n2, s2, c22, c23, ?_, d1, e4, fun _ => by rw [q_u1_s, e1], ⟨q_Kp_D a5 (fun x hx => d5 x (by omega)), by omega, vt0 P2 Q2 d10, by rw [c2, e2], by rw [c3, e3], by rw [a13, d11 43 (by decide) (by decide)], by rw [a12, d11 44 (by decide) (by decide)], ⟨z, L, Js, ⟨Or.inr c5, c4, e5, q_CMk_m7 c6 (by omega) (fun x _ hx _ => d5 x hx) rfl rfl, q_CIs_m7 c9 (by omega) (fun x _ hx _ => d5 x hx) rfl rfl, c7, c8, e6, ⟨N, top, e7, e8, e9⟩, q_pd_ok hq⟩, vm0 P2 Q2 S2 z (d11 42 (by decide) (by decide)) d12⟩, vl P2 Q2 (d2 4 (by omega) (by omega) (by omega) (by omega) (by omega)) (d2 8 (by omega) (by omega) (by omega) (by omega) (by omega)) (d3 29 (by omega)), q_VA_mo a6 (by omega) (fun x hx => d5 x (by omega)) rfl rfl rfl rfl⟩, by omega, by omega, by omega, by omega⟩
    simp (disch := first | rfl | omega | decide | exact Nat.le_of_ble_eq_true rfl) only [F_L_describe, ↓q_is_1, q_cc, c1, ↓q_sO, q_rt]
end QSC
