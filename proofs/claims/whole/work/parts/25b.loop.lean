section QLL
variable {κ : Nat → Nat} {b sb L : Nat} {xs : Nat → Int32}
def q_ch {α : Type} (κ : Nat → Nat) (b : Nat) (f : q_X Int32) (g : q_X α) (cmp : Int64 → α → q_X Int32) (K : q_X Int32) : q_X Int32 := q_cc f (fun v => q_rd (q_is (some (b + 26)) 16) fun _ => q_cc g (fun u => q_rd (q_is (some (b + 26)) 16) fun _ => q_cc (F_X13_thrown κ (some (b + 26))) (fun t => q_br (t = v) (q_br (¬ v = 0) K (q_rd (q_lL (some (b + 66)) (0 : Int32)) fun w => cmp w u)) (q_rz (0 : Int32))) (fun _ => q_no)) (fun _ => q_no)) (fun _ => q_no)
def q_Go (κ : Nat → Nat) (b n m c22 c23 : Nat) (E : (q_X Int32) → q_St → Option ((Int32 ⊕ q_Exn) × q_St)) (σ : q_St) : Prop := ∃ (C1 : q_CT) (M1 : q_MT) (O1 : Nat → Int64) (D1 : q_Mem) (n1 m1 d22 d23 : Nat), (∀ K : q_X Int32, E K σ = K (q_H b C1 M1 O1 D1, n1, m1)) ∧ q_VI κ b C1 M1 D1 n1 d22 d23 ∧ n ≤ n1 ∧ m ≤ m1 ∧ n1 + c22 + c23 ≤ n + 8000 + d22 + d23 ∧ m1 + 4 * (c22 + c23) ≤ m + 90000 + 4 * (d22 + d23)
theorem q_ch_go {α : Type} {f : q_X Int32} {g : q_X α} {tl : α → Int64} {C : q_CT} {M : q_MT} {O : Nat → Int64} {D : q_Mem} {n m c22 c23 : Nat} (hs : q_Step κ b f g tl) (cmp : q_X Int32 → Int64 → α → q_X Int32) (hc : ∀ K u σ, cmp K (tl u) u σ = K σ) (hV : q_VI κ b C M D n c22 c23) : q_Go κ b n m c22 c23 (fun K => q_ch κ b f g (cmp K) K) (q_H b C M O D, n, m) := by
  obtain ⟨k, v, C1, O1, D1, n1, m1, P2, Q2, S2, D2, n2, m2, d22, d23, e1, e2, e3, e4, e5, e6, e7, e8, e9⟩ := hs C M O D n m c22 c23 hV
  refine ⟨C1, (P2, Q2, S2), O1, D2, n2, m2, d22, d23, fun K => ?_, e5, e6, e7, e8, e9⟩
  have et : F_X13_thrown κ (some (b + 26)) (q_H b C1 (P2, Q2, S2) O1 D2, n2, m2) = some (.inl (P2 7), (q_H b C1 (P2, Q2, S2) O1 D2, n2, m2)) := by
    simp (disch := first | rfl | omega | decide | exact Nat.le_of_ble_eq_true rfl) only [↓q_br, q_rt, q_rz, q_gd, q_ca, ↓reduceIte, F_X13_thrown, ↓q_gI_26_7]
  unfold q_ch
  by_cases hk : k = 0
  · have h0 : (¬ k = 0) = False := eq_false (fun h => h hk)
    simp (disch := first | rfl | omega | decide | exact Nat.le_of_ble_eq_true rfl) only [q_cc, e1, ↓q_is_26, e2, et, e3, ↓q_br, if_true, h0, if_false, ↓q_lO, e4 hk, hc]
  · have h0 : (¬ k = 0) = True := eq_true hk
    simp (disch := first | rfl | omega | decide | exact Nat.le_of_ble_eq_true rfl) only [q_cc, e1, ↓q_is_26, e2, et, e3, ↓q_br, if_true, h0]
theorem q_sm_go {f g : q_X Int32} {C : q_CT} {M : q_MT} {O : Nat → Int64} {D : q_Mem} {n m c22 c23 : Nat} (hs : q_Same κ b f g) (hV : q_VI κ b C M D n c22 c23) : q_Go κ b n m c22 c23 (fun K => q_rd (q_is (some (b + 1)) 14) fun _ => q_cc f (fun v => q_rd (q_is (some (b + 26)) 16) fun _ => q_cc g (fun u => q_br (v = u) K (q_rz (0 : Int32))) (fun _ => q_no)) (fun _ => q_no)) (q_H b C M O D, n, m) := by
  obtain ⟨v, M2, e1, e2, e3⟩ := hs C M O D n m c22 c23 hV
  refine ⟨C, M2, O, D, n, m, c22, c23, fun K => ?_, e3, by omega, by omega, by omega, by omega⟩
  simp (disch := first | rfl | omega | decide | exact Nat.le_of_ble_eq_true rfl) only [↓q_is_1, q_cc, e1, ↓q_is_26, e2, ↓q_br, if_true]
theorem q_gd_1 {β : Type} {a : q_X β} {i9 : Decidable True} : @q_gd β True i9 a = a := by
  funext σ
  exact if_pos trivial
theorem q_br_1 {β : Type} {a c : q_X β} {i9 : Decidable True} : @q_br β True i9 a c = a := by
  funext σ
  exact if_pos trivial
theorem q_br_0 {β : Type} {a c : q_X β} {i9 : Decidable False} : @q_br β False i9 a c = c := by
  funext σ
  exact if_neg id
theorem q_lgx (x : Int64) : lg_cmp x x = 0 := (lg_cmp_eq x x).mpr rfl
theorem q_op15 {x : Int32} (h : ¬ (x.toInt < 0 ∨ 14 < x.toInt)) : ∃ j : Nat, j ≤ 14 ∧ x = nI j := by
  have h1 : ¬ x < 0 := fun h9 => h (Or.inl (Int32.lt_iff_toInt_lt.mp h9))
  have h2 : x ≤ 14 := Int32.le_iff_toInt_le.mpr (by
    have : (14 : Int32).toInt = 14 := rfl
    rw [this]
    omega)
  exact nI_of2 (M := 14) (n := 14) rfl h1 h2
theorem q_lawB {C : q_CT} {M : q_MT} {O : Nat → Int64} {D : q_Mem} {n m c22 c23 i : Nat} (hi : i + 6 ≤ L) (hL : L ≤ 384) (r23 : Option Nat → Option Nat → Option Nat → Option Nat → Int32 → q_X Int32) (hV : q_VI κ b C M D n c22 c23) (hlt : ¬ (nI L - 6 < nI i)) : ∃ (C1 : q_CT) (M1 : q_MT) (O1 : Nat → Int64) (D1 : q_Mem) (n1 m1 d22 d23 : Nat), F_L_law_23B κ sb L xs r23 (some sb) (some (b + 1)) (some (b + 26)) (some (b + 66)) (nI i) (q_H b C M O D, n, m) = r23 (some sb) (some (b + 1)) (some (b + 26)) (some (b + 66)) (nI i + 6) (q_H b C1 M1 O1 D1, n1, m1) ∧ q_VI κ b C1 M1 D1 n1 d22 d23 ∧ n ≤ n1 ∧ m ≤ m1 ∧ n1 + c22 + c23 ≤ n + 8000 + d22 + d23 ∧ m1 + 4 * (c22 + c23) ≤ m + 90000 + 4 * (d22 + d23) := by
  have gx : ∀ k : Nat, k < 6 → (nI i + nI k < 0 ∨ L ≤ (nI i + nI k).toNatClampNeg) = False := fun k hk => by
    rw [nI_add]
    exact eq_false (nI_in (by omega) (by omega))
  have g0 : (nI i < 0 ∨ L ≤ (nI i).toNatClampNeg) = False := eq_false (nI_in (by omega) (by omega))
  have g1 : (nI i + 1 < 0 ∨ L ≤ (nI i + 1).toNatClampNeg) = False := gx 1 (by decide)
  have g2 : (nI i + 2 < 0 ∨ L ≤ (nI i + 2).toNatClampNeg) = False := gx 2 (by decide)
  have g3 : (nI i + 3 < 0 ∨ L ≤ (nI i + 3).toNatClampNeg) = False := gx 3 (by decide)
  have g4 : (nI i + 4 < 0 ∨ L ≤ (nI i + 4).toNatClampNeg) = False := gx 4 (by decide)
  have g5 : (nI i + 5 < 0 ∨ L ≤ (nI i + 5).toNatClampNeg) = False := gx 5 (by decide)
  have G0 : ∀ {β : Type} {i9 : Decidable (some sb = some sb ∧ ¬ (nI i < 0 ∨ L ≤ (nI i).toNatClampNeg))} (a : q_X β), @q_gd β (some sb = some sb ∧ ¬ (nI i < 0 ∨ L ≤ (nI i).toNatClampNeg)) i9 a = a := fun a => funext fun σ => if_pos ⟨rfl, of_eq_false g0⟩
  have G1 : ∀ {β : Type} {i9 : Decidable (some sb = some sb ∧ ¬ (nI i + 1 < 0 ∨ L ≤ (nI i + 1).toNatClampNeg))} (a : q_X β), @q_gd β (some sb = some sb ∧ ¬ (nI i + 1 < 0 ∨ L ≤ (nI i + 1).toNatClampNeg)) i9 a = a := fun a => funext fun σ => if_pos ⟨rfl, of_eq_false g1⟩
  have G2 : ∀ {β : Type} {i9 : Decidable (some sb = some sb ∧ ¬ (nI i + 2 < 0 ∨ L ≤ (nI i + 2).toNatClampNeg))} (a : q_X β), @q_gd β (some sb = some sb ∧ ¬ (nI i + 2 < 0 ∨ L ≤ (nI i + 2).toNatClampNeg)) i9 a = a := fun a => funext fun σ => if_pos ⟨rfl, of_eq_false g2⟩
  have G3 : ∀ {β : Type} {i9 : Decidable (some sb = some sb ∧ ¬ (nI i + 3 < 0 ∨ L ≤ (nI i + 3).toNatClampNeg))} (a : q_X β), @q_gd β (some sb = some sb ∧ ¬ (nI i + 3 < 0 ∨ L ≤ (nI i + 3).toNatClampNeg)) i9 a = a := fun a => funext fun σ => if_pos ⟨rfl, of_eq_false g3⟩
  have G4 : ∀ {β : Type} {i9 : Decidable (some sb = some sb ∧ ¬ (nI i + 4 < 0 ∨ L ≤ (nI i + 4).toNatClampNeg))} (a : q_X β), @q_gd β (some sb = some sb ∧ ¬ (nI i + 4 < 0 ∨ L ≤ (nI i + 4).toNatClampNeg)) i9 a = a := fun a => funext fun σ => if_pos ⟨rfl, of_eq_false g4⟩
  have G5 : ∀ {β : Type} {i9 : Decidable (some sb = some sb ∧ ¬ (nI i + 5 < 0 ∨ L ≤ (nI i + 5).toNatClampNeg))} (a : q_X β), @q_gd β (some sb = some sb ∧ ¬ (nI i + 5 < 0 ∨ L ≤ (nI i + 5).toNatClampNeg)) i9 a = a := fun a => funext fun σ => if_pos ⟨rfl, of_eq_false g5⟩
  have hl9 : (nI L - 6 < nI i) = False := eq_false hlt
  have fin : ∀ (E : (q_X Int32) → q_St → Option ((Int32 ⊕ q_Exn) × q_St)), q_Go κ b n m c22 c23 E (q_H b C M O D, n, m) → F_L_law_23B κ sb L xs r23 (some sb) (some (b + 1)) (some (b + 26)) (some (b + 66)) (nI i) (q_H b C M O D, n, m) = E (r23 (some sb) (some (b + 1)) (some (b + 26)) (some (b + 66)) (nI i + 6)) (q_H b C M O D, n, m) → ∃ (C1 : q_CT) (M1 : q_MT) (O1 : Nat → Int64) (D1 : q_Mem) (n1 m1 d22 d23 : Nat), F_L_law_23B κ sb L xs r23 (some sb) (some (b + 1)) (some (b + 26)) (some (b + 66)) (nI i) (q_H b C M O D, n, m) = r23 (some sb) (some (b + 1)) (some (b + 26)) (some (b + 66)) (nI i + 6) (q_H b C1 M1 O1 D1, n1, m1) ∧ q_VI κ b C1 M1 D1 n1 d22 d23 ∧ n ≤ n1 ∧ m ≤ m1 ∧ n1 + c22 + c23 ≤ n + 8000 + d22 + d23 ∧ m1 + 4 * (c22 + c23) ≤ m + 90000 + 4 * (d22 + d23) := by
    intro E hG hE
    obtain ⟨C1, M1, O1, D1, n1, m1, d22, d23, e1, e2⟩ := hG
    exact ⟨C1, M1, O1, D1, n1, m1, d22, d23, hE.trans (e1 _), e2⟩
  by_cases ho : ((xs (nI i).toNatClampNeg) &&& (15 : Int32)).toInt < 0 ∨ 14 < ((xs (nI i).toNatClampNeg) &&& (15 : Int32)).toInt
  · refine fin (fun K => K) ⟨C, M, O, D, n, m, c22, c23, fun K => rfl, hV, by omega, by omega, by omega, by omega⟩ ?_
    simp only [F_L_law_23B, hl9, G0, not_false_eq_true, and_self, or_self, or_false, eq_self, q_gd_1, q_br_0, eq_true ho, q_br_1, F_L_law_911]
  · obtain ⟨j, hj, ej⟩ := q_op15 ho
    have cm : ∀ (K : q_X Int32) (u : Int32) (σ : q_St), (fun (K : q_X Int32) (w : Int64) (u : Int32) => q_br ((lg_cmp w u.toInt64) = 0) K (q_rz (0 : Int32))) K ((fun v : Int32 => v.toInt64) u) u σ = K σ := fun K u σ => if_pos (q_lgx _)
    have cl : ∀ (K : q_X Int32) (u : Int64) (σ : q_St), (fun (K : q_X Int32) (w : Int64) (u : Int64) => q_br ((lg_cmp w u) = 0) K (q_rz (0 : Int32))) K ((fun v : Int64 => v) u) u σ = K σ := fun K u σ => if_pos (q_lgx _)
    have co : ∀ (K : q_X Int32) (u : Int32) (σ : q_St), (fun (K : q_X Int32) (w : Int64) (u : Int32) => q_br (u = 0) (q_br ((lg_cmp w 0) = 0) K (q_rz (0 : Int32))) (q_br ((lg_cmp w 1) = 0) K (q_rz (0 : Int32)))) K ((fun v : Int32 => if v = 0 then 0 else 1) u) u σ = K σ := fun K u σ => by
      by_cases c : u = 0
      · simp only [eq_true c, q_br_1, if_true, q_lgx]
      · simp only [eq_false c, q_br_0, if_false, q_lgx, q_br_1]
    have hh : j = 0 ∨ j = 1 ∨ j = 2 ∨ j = 3 ∨ j = 4 ∨ j = 5 ∨ j = 6 ∨ j = 7 ∨ j = 8 ∨ j = 9 ∨ j = 10 ∨ j = 11 ∨ j = 12 ∨ j = 13 ∨ j = 14 := by omega
    rcases hh with rfl | rfl | rfl | rfl | rfl | rfl | rfl | rfl | rfl | rfl | rfl | rfl | rfl | rfl | rfl
    · have ho9 : ((0 : Int32).toInt < 0 ∨ 14 < (0 : Int32).toInt) = False := eq_false (by decide)
      have ej9 : (xs (nI i).toNatClampNeg &&& (15 : Int32)) = 0 := ej
      refine fin _ (q_ch_go (κ := κ) (b := b) (m := m) (O := O) (q_step_feed (xs (nI i + 1).toNatClampNeg) (xs (nI i + 2).toNatClampNeg) (xs (nI i + 3).toNatClampNeg) (xs (nI i + 4).toNatClampNeg) (xs (nI i + 5).toNatClampNeg)) (fun (K : q_X Int32) (w : Int64) (u : Int32) => q_br ((lg_cmp w u.toInt64) = 0) K (q_rz (0 : Int32))) cm hV) ?_
      simp only [F_L_law_23B, F_L_law_911, F_L_law_217, hl9, ej9, ho9, G0, G1, G2, G3, G4, G5, not_false_eq_true, and_self, or_self, or_false, eq_self, q_gd_1, q_br_0, q_br_1, q_ch]
    · have ho9 : ((1 : Int32).toInt < 0 ∨ 14 < (1 : Int32).toInt) = False := eq_false (by decide)
      have ej9 : (xs (nI i).toNatClampNeg &&& (15 : Int32)) = 1 := ej
      have n0 : ((1 : Int32) = 0) = False := eq_false (by decide)
      refine fin _ (q_ch_go (κ := κ) (b := b) (m := m) (O := O) (q_step_end (xs (nI i + 1).toNatClampNeg)) (fun (K : q_X Int32) (w : Int64) (u : Int32) => q_br ((lg_cmp w u.toInt64) = 0) K (q_rz (0 : Int32))) cm hV) ?_
      simp only [F_L_law_23B, F_L_law_911, F_L_law_273, hl9, ej9, ho9, n0, G0, G1, G2, G3, G4, G5, not_false_eq_true, and_self, or_self, or_false, eq_self, q_gd_1, q_br_0, q_br_1, q_ch]
    · have ho9 : ((2 : Int32).toInt < 0 ∨ 14 < (2 : Int32).toInt) = False := eq_false (by decide)
      have ej9 : (xs (nI i).toNatClampNeg &&& (15 : Int32)) = 2 := ej
      have n0 : ((2 : Int32) = 0) = False := eq_false (by decide)
      have n1 : ((2 : Int32) = 1) = False := eq_false (by decide)
      refine fin _ (q_ch_go (κ := κ) (b := b) (m := m) (O := O) (q_step_describe) (fun (K : q_X Int32) (w : Int64) (u : Int32) => q_br ((lg_cmp w u.toInt64) = 0) K (q_rz (0 : Int32))) cm hV) ?_
      simp only [F_L_law_23B, F_L_law_911, F_L_law_317, hl9, ej9, ho9, n0, n1, G0, G1, G2, G3, G4, G5, not_false_eq_true, and_self, or_self, or_false, eq_self, q_gd_1, q_br_0, q_br_1, q_ch]
    · have ho9 : ((3 : Int32).toInt < 0 ∨ 14 < (3 : Int32).toInt) = False := eq_false (by decide)
      have ej9 : (xs (nI i).toNatClampNeg &&& (15 : Int32)) = 3 := ej
      have n0 : ((3 : Int32) = 0) = False := eq_false (by decide)
      have n1 : ((3 : Int32) = 1) = False := eq_false (by decide)
      have n2 : ((3 : Int32) = 2) = False := eq_false (by decide)
      refine fin _ (q_ch_go (κ := κ) (b := b) (m := m) (O := O) (q_step_assemble) (fun (K : q_X Int32) (w : Int64) (u : Int32) => q_br ((lg_cmp w u.toInt64) = 0) K (q_rz (0 : Int32))) cm hV) ?_
      simp only [F_L_law_23B, F_L_law_911, F_L_law_361, hl9, ej9, ho9, n0, n1, n2, G0, G1, G2, G3, G4, G5, not_false_eq_true, and_self, or_self, or_false, eq_self, q_gd_1, q_br_0, q_br_1, q_ch]
    · have ho9 : ((4 : Int32).toInt < 0 ∨ 14 < (4 : Int32).toInt) = False := eq_false (by decide)
      have ej9 : (xs (nI i).toNatClampNeg &&& (15 : Int32)) = 4 := ej
      have n0 : ((4 : Int32) = 0) = False := eq_false (by decide)
      have n1 : ((4 : Int32) = 1) = False := eq_false (by decide)
      have n2 : ((4 : Int32) = 2) = False := eq_false (by decide)
      have n3 : ((4 : Int32) = 3) = False := eq_false (by decide)
      refine fin _ (q_sm_go (κ := κ) (b := b) (m := m) (O := O) (q_same_kind (κ := κ) (b := b)) hV) ?_
      simp only [F_L_law_23B, F_L_law_911, hl9, ej9, ho9, n0, n1, n2, n3, G0, G1, G2, G3, G4, G5, not_false_eq_true, and_self, or_self, or_false, eq_self, q_gd_1, q_br_0, q_br_1]
    · have ho9 : ((5 : Int32).toInt < 0 ∨ 14 < (5 : Int32).toInt) = False := eq_false (by decide)
      have ej9 : (xs (nI i).toNatClampNeg &&& (15 : Int32)) = 5 := ej
      have n0 : ((5 : Int32) = 0) = False := eq_false (by decide)
      have n1 : ((5 : Int32) = 1) = False := eq_false (by decide)
      have n2 : ((5 : Int32) = 2) = False := eq_false (by decide)
      have n3 : ((5 : Int32) = 3) = False := eq_false (by decide)
      have n4 : ((5 : Int32) = 4) = False := eq_false (by decide)
      refine fin _ (q_sm_go (κ := κ) (b := b) (m := m) (O := O) (q_same_place (κ := κ) (b := b)) hV) ?_
      simp only [F_L_law_23B, F_L_law_911, hl9, ej9, ho9, n0, n1, n2, n3, n4, G0, G1, G2, G3, G4, G5, not_false_eq_true, and_self, or_self, or_false, eq_self, q_gd_1, q_br_0, q_br_1]
    · have ho9 : ((6 : Int32).toInt < 0 ∨ 14 < (6 : Int32).toInt) = False := eq_false (by decide)
      have ej9 : (xs (nI i).toNatClampNeg &&& (15 : Int32)) = 6 := ej
      have n0 : ((6 : Int32) = 0) = False := eq_false (by decide)
      have n1 : ((6 : Int32) = 1) = False := eq_false (by decide)
      have n2 : ((6 : Int32) = 2) = False := eq_false (by decide)
      have n3 : ((6 : Int32) = 3) = False := eq_false (by decide)
      have n4 : ((6 : Int32) = 4) = False := eq_false (by decide)
      have n5 : ((6 : Int32) = 5) = False := eq_false (by decide)
      refine fin _ (q_ch_go (κ := κ) (b := b) (m := m) (O := O) (q_step_word (xs (nI i + 1).toNatClampNeg)) (fun (K : q_X Int32) (w : Int64) (u : Int64) => q_br ((lg_cmp w u) = 0) K (q_rz (0 : Int32))) cl hV) ?_
      simp only [F_L_law_23B, F_L_law_911, F_L_law_442, hl9, ej9, ho9, n0, n1, n2, n3, n4, n5, G0, G1, G2, G3, G4, G5, not_false_eq_true, and_self, or_self, or_false, eq_self, q_gd_1, q_br_0, q_br_1, q_ch]
    · have ho9 : ((7 : Int32).toInt < 0 ∨ 14 < (7 : Int32).toInt) = False := eq_false (by decide)
      have ej9 : (xs (nI i).toNatClampNeg &&& (15 : Int32)) = 7 := ej
      have n0 : ((7 : Int32) = 0) = False := eq_false (by decide)
      have n1 : ((7 : Int32) = 1) = False := eq_false (by decide)
      have n2 : ((7 : Int32) = 2) = False := eq_false (by decide)
      have n3 : ((7 : Int32) = 3) = False := eq_false (by decide)
      have n4 : ((7 : Int32) = 4) = False := eq_false (by decide)
      have n5 : ((7 : Int32) = 5) = False := eq_false (by decide)
      have n6 : ((7 : Int32) = 6) = False := eq_false (by decide)
      refine fin _ (q_ch_go (κ := κ) (b := b) (m := m) (O := O) (q_step_poke (xs (nI i + 1).toNatClampNeg) ((((xs (nI i + 2).toNatClampNeg).toInt64) <<< ((32 : Int32).toInt64 &&& 63)) ||| (((xs (nI i + 3).toNatClampNeg).toInt64) &&& (4294967295 : Int64)))) (fun (K : q_X Int32) (w : Int64) (u : Int32) => q_br ((lg_cmp w u.toInt64) = 0) K (q_rz (0 : Int32))) cm hV) ?_
      simp only [F_L_law_23B, F_L_law_911, F_L_law_542, hl9, ej9, ho9, n0, n1, n2, n3, n4, n5, n6, G0, G1, G2, G3, G4, G5, not_false_eq_true, and_self, or_self, or_false, eq_self, q_gd_1, q_br_0, q_br_1, q_ch]
    · have ho9 : ((8 : Int32).toInt < 0 ∨ 14 < (8 : Int32).toInt) = False := eq_false (by decide)
      have ej9 : (xs (nI i).toNatClampNeg &&& (15 : Int32)) = 8 := ej
      have n0 : ((8 : Int32) = 0) = False := eq_false (by decide)
      have n1 : ((8 : Int32) = 1) = False := eq_false (by decide)
      have n2 : ((8 : Int32) = 2) = False := eq_false (by decide)
      have n3 : ((8 : Int32) = 3) = False := eq_false (by decide)
      have n4 : ((8 : Int32) = 4) = False := eq_false (by decide)
      have n5 : ((8 : Int32) = 5) = False := eq_false (by decide)
      have n6 : ((8 : Int32) = 6) = False := eq_false (by decide)
      have n7 : ((8 : Int32) = 7) = False := eq_false (by decide)
      refine fin _ (q_ch_go (κ := κ) (b := b) (m := m) (O := O) (q_step_list (xs (nI i + 1).toNatClampNeg)) (fun (K : q_X Int32) (w : Int64) (u : Int32) => q_br ((lg_cmp w u.toInt64) = 0) K (q_rz (0 : Int32))) cm hV) ?_
      simp only [F_L_law_23B, F_L_law_911, F_L_law_598, hl9, ej9, ho9, n0, n1, n2, n3, n4, n5, n6, n7, G0, G1, G2, G3, G4, G5, not_false_eq_true, and_self, or_self, or_false, eq_self, q_gd_1, q_br_0, q_br_1, q_ch]
    · have ho9 : ((9 : Int32).toInt < 0 ∨ 14 < (9 : Int32).toInt) = False := eq_false (by decide)
      have ej9 : (xs (nI i).toNatClampNeg &&& (15 : Int32)) = 9 := ej
      have n0 : ((9 : Int32) = 0) = False := eq_false (by decide)
      have n1 : ((9 : Int32) = 1) = False := eq_false (by decide)
      have n2 : ((9 : Int32) = 2) = False := eq_false (by decide)
      have n3 : ((9 : Int32) = 3) = False := eq_false (by decide)
      have n4 : ((9 : Int32) = 4) = False := eq_false (by decide)
      have n5 : ((9 : Int32) = 5) = False := eq_false (by decide)
      have n6 : ((9 : Int32) = 6) = False := eq_false (by decide)
      have n7 : ((9 : Int32) = 7) = False := eq_false (by decide)
      have n8 : ((9 : Int32) = 8) = False := eq_false (by decide)
      refine fin _ (q_sm_go (κ := κ) (b := b) (m := m) (O := O) (q_same_which (κ := κ) (b := b)) hV) ?_
      simp only [F_L_law_23B, F_L_law_911, hl9, ej9, ho9, n0, n1, n2, n3, n4, n5, n6, n7, n8, G0, G1, G2, G3, G4, G5, not_false_eq_true, and_self, or_self, or_false, eq_self, q_gd_1, q_br_0, q_br_1]
    · have ho9 : ((10 : Int32).toInt < 0 ∨ 14 < (10 : Int32).toInt) = False := eq_false (by decide)
      have ej9 : (xs (nI i).toNatClampNeg &&& (15 : Int32)) = 10 := ej
      have n0 : ((10 : Int32) = 0) = False := eq_false (by decide)
      have n1 : ((10 : Int32) = 1) = False := eq_false (by decide)
      have n2 : ((10 : Int32) = 2) = False := eq_false (by decide)
      have n3 : ((10 : Int32) = 3) = False := eq_false (by decide)
      have n4 : ((10 : Int32) = 4) = False := eq_false (by decide)
      have n5 : ((10 : Int32) = 5) = False := eq_false (by decide)
      have n6 : ((10 : Int32) = 6) = False := eq_false (by decide)
      have n7 : ((10 : Int32) = 7) = False := eq_false (by decide)
      have n8 : ((10 : Int32) = 8) = False := eq_false (by decide)
      have n9 : ((10 : Int32) = 9) = False := eq_false (by decide)
      refine fin _ (q_ch_go (κ := κ) (b := b) (m := m) (O := O) (q_step_listing (xs (nI i + 1).toNatClampNeg)) (fun (K : q_X Int32) (w : Int64) (u : Int64) => q_br ((lg_cmp w u) = 0) K (q_rz (0 : Int32))) cl hV) ?_
      simp only [F_L_law_23B, F_L_law_911, F_L_law_666, hl9, ej9, ho9, n0, n1, n2, n3, n4, n5, n6, n7, n8, n9, G0, G1, G2, G3, G4, G5, not_false_eq_true, and_self, or_self, or_false, eq_self, q_gd_1, q_br_0, q_br_1, q_ch]
    · have ho9 : ((11 : Int32).toInt < 0 ∨ 14 < (11 : Int32).toInt) = False := eq_false (by decide)
      have ej9 : (xs (nI i).toNatClampNeg &&& (15 : Int32)) = 11 := ej
      have n0 : ((11 : Int32) = 0) = False := eq_false (by decide)
      have n1 : ((11 : Int32) = 1) = False := eq_false (by decide)
      have n2 : ((11 : Int32) = 2) = False := eq_false (by decide)
      have n3 : ((11 : Int32) = 3) = False := eq_false (by decide)
      have n4 : ((11 : Int32) = 4) = False := eq_false (by decide)
      have n5 : ((11 : Int32) = 5) = False := eq_false (by decide)
      have n6 : ((11 : Int32) = 6) = False := eq_false (by decide)
      have n7 : ((11 : Int32) = 7) = False := eq_false (by decide)
      have n8 : ((11 : Int32) = 8) = False := eq_false (by decide)
      have n9 : ((11 : Int32) = 9) = False := eq_false (by decide)
      have n10 : ((11 : Int32) = 10) = False := eq_false (by decide)
      refine fin _ (q_ch_go (κ := κ) (b := b) (m := m) (O := O) (q_step_quote) (fun (K : q_X Int32) (w : Int64) (u : Int32) => q_br ((lg_cmp w u.toInt64) = 0) K (q_rz (0 : Int32))) cm hV) ?_
      simp only [F_L_law_23B, F_L_law_911, F_L_law_710, hl9, ej9, ho9, n0, n1, n2, n3, n4, n5, n6, n7, n8, n9, n10, G0, G1, G2, G3, G4, G5, not_false_eq_true, and_self, or_self, or_false, eq_self, q_gd_1, q_br_0, q_br_1, q_ch]
    · have ho9 : ((12 : Int32).toInt < 0 ∨ 14 < (12 : Int32).toInt) = False := eq_false (by decide)
      have ej9 : (xs (nI i).toNatClampNeg &&& (15 : Int32)) = 12 := ej
      have n0 : ((12 : Int32) = 0) = False := eq_false (by decide)
      have n1 : ((12 : Int32) = 1) = False := eq_false (by decide)
      have n2 : ((12 : Int32) = 2) = False := eq_false (by decide)
      have n3 : ((12 : Int32) = 3) = False := eq_false (by decide)
      have n4 : ((12 : Int32) = 4) = False := eq_false (by decide)
      have n5 : ((12 : Int32) = 5) = False := eq_false (by decide)
      have n6 : ((12 : Int32) = 6) = False := eq_false (by decide)
      have n7 : ((12 : Int32) = 7) = False := eq_false (by decide)
      have n8 : ((12 : Int32) = 8) = False := eq_false (by decide)
      have n9 : ((12 : Int32) = 9) = False := eq_false (by decide)
      have n10 : ((12 : Int32) = 10) = False := eq_false (by decide)
      have n11 : ((12 : Int32) = 11) = False := eq_false (by decide)
      refine fin _ (q_ch_go (κ := κ) (b := b) (m := m) (O := O) (q_step_told (xs (nI i + 1).toNatClampNeg) (xs (nI i + 2).toNatClampNeg)) (fun (K : q_X Int32) (w : Int64) (u : Int64) => q_br ((lg_cmp w u) = 0) K (q_rz (0 : Int32))) cl hV) ?_
      simp only [F_L_law_23B, F_L_law_911, F_L_law_777, hl9, ej9, ho9, n0, n1, n2, n3, n4, n5, n6, n7, n8, n9, n10, n11, G0, G1, G2, G3, G4, G5, not_false_eq_true, and_self, or_self, or_false, eq_self, q_gd_1, q_br_0, q_br_1, q_ch]
    · have ho9 : ((13 : Int32).toInt < 0 ∨ 14 < (13 : Int32).toInt) = False := eq_false (by decide)
      have ej9 : (xs (nI i).toNatClampNeg &&& (15 : Int32)) = 13 := ej
      have n0 : ((13 : Int32) = 0) = False := eq_false (by decide)
      have n1 : ((13 : Int32) = 1) = False := eq_false (by decide)
      have n2 : ((13 : Int32) = 2) = False := eq_false (by decide)
      have n3 : ((13 : Int32) = 3) = False := eq_false (by decide)
      have n4 : ((13 : Int32) = 4) = False := eq_false (by decide)
      have n5 : ((13 : Int32) = 5) = False := eq_false (by decide)
      have n6 : ((13 : Int32) = 6) = False := eq_false (by decide)
      have n7 : ((13 : Int32) = 7) = False := eq_false (by decide)
      have n8 : ((13 : Int32) = 8) = False := eq_false (by decide)
      have n9 : ((13 : Int32) = 9) = False := eq_false (by decide)
      have n10 : ((13 : Int32) = 10) = False := eq_false (by decide)
      have n11 : ((13 : Int32) = 11) = False := eq_false (by decide)
      have n12 : ((13 : Int32) = 12) = False := eq_false (by decide)
      refine fin _ (q_ch_go (κ := κ) (b := b) (m := m) (O := O) (q_step_overlap (xs (nI i + 1).toNatClampNeg) (xs (nI i + 2).toNatClampNeg)) (fun (K : q_X Int32) (w : Int64) (u : Int32) => q_br (u = 0) (q_br ((lg_cmp w 0) = 0) K (q_rz (0 : Int32))) (q_br ((lg_cmp w 1) = 0) K (q_rz (0 : Int32)))) co hV) ?_
      simp only [F_L_law_23B, F_L_law_911, F_L_law_852, F_L_law_846, hl9, ej9, ho9, n0, n1, n2, n3, n4, n5, n6, n7, n8, n9, n10, n11, n12, G0, G1, G2, G3, G4, G5, not_false_eq_true, and_self, or_self, or_false, eq_self, q_gd_1, q_br_0, q_br_1, q_ch]
    · have ho9 : ((14 : Int32).toInt < 0 ∨ 14 < (14 : Int32).toInt) = False := eq_false (by decide)
      have ej9 : (xs (nI i).toNatClampNeg &&& (15 : Int32)) = 14 := ej
      have n0 : ((14 : Int32) = 0) = False := eq_false (by decide)
      have n1 : ((14 : Int32) = 1) = False := eq_false (by decide)
      have n2 : ((14 : Int32) = 2) = False := eq_false (by decide)
      have n3 : ((14 : Int32) = 3) = False := eq_false (by decide)
      have n4 : ((14 : Int32) = 4) = False := eq_false (by decide)
      have n5 : ((14 : Int32) = 5) = False := eq_false (by decide)
      have n6 : ((14 : Int32) = 6) = False := eq_false (by decide)
      have n7 : ((14 : Int32) = 7) = False := eq_false (by decide)
      have n8 : ((14 : Int32) = 8) = False := eq_false (by decide)
      have n9 : ((14 : Int32) = 9) = False := eq_false (by decide)
      have n10 : ((14 : Int32) = 10) = False := eq_false (by decide)
      have n11 : ((14 : Int32) = 11) = False := eq_false (by decide)
      have n12 : ((14 : Int32) = 12) = False := eq_false (by decide)
      have n13 : ((14 : Int32) = 13) = False := eq_false (by decide)
      refine fin _ (q_ch_go (κ := κ) (b := b) (m := m) (O := O) (q_step_count (xs (nI i + 1).toNatClampNeg)) (fun (K : q_X Int32) (w : Int64) (u : Int32) => q_br ((lg_cmp w u.toInt64) = 0) K (q_rz (0 : Int32))) cm hV) ?_
      simp only [F_L_law_23B, F_L_law_911, F_L_law_908, hl9, ej9, ho9, n0, n1, n2, n3, n4, n5, n6, n7, n8, n9, n10, n11, n12, n13, G0, G1, G2, G3, G4, G5, not_false_eq_true, and_self, or_self, or_false, eq_self, q_gd_1, q_br_0, q_br_1, q_ch]
theorem q_len6 {L j : Nat} (hL : L ≤ 384) (hj : j ≤ 384) : (nI L - 6 < nI j) ↔ L < j + 6 := by
  by_cases h : 6 ≤ L
  · have e : nI L - 6 = nI (L - 6) := nI_sub (b := 6) h
    rw [e, nI_ltI (by omega) (by omega)]
    omega
  · have hL : L = 0 ∨ L = 1 ∨ L = 2 ∨ L = 3 ∨ L = 4 ∨ L = 5 := by omega
    have key : (nI L - 6).toInt < 0 := by
      rcases hL with rfl | rfl | rfl | rfl | rfl | rfl <;> decide
    refine ⟨fun _ => by omega, fun _ => Int32.lt_iff_toInt_lt.mpr ?_⟩
    rw [nI_toInt (by omega)]
    omega
theorem q_lawL (hL : L ≤ 384) : ∀ (d fuel i : Nat) (C : q_CT) (M : q_MT) (O : Nat → Int64) (D : q_Mem) (n m c22 c23 : Nat), i + d = L / 6 → d < fuel → q_VI κ b C M D n c22 c23 → ∃ σ : q_St, F_L_law_23 κ sb L xs fuel (some sb) (some (b + 1)) (some (b + 26)) (some (b + 66)) (nI (6 * i)) (q_H b C M O D, n, m) = some (.inl 1, σ) ∧ n ≤ σ.2.1 ∧ m ≤ σ.2.2 ∧ σ.2.1 + c22 + c23 ≤ n + 8000 * d + 40000 ∧ σ.2.2 + 4 * (c22 + c23) ≤ m + 90000 * d + 160000 := by
  intro d
  induction d with
  | zero =>
    intro fuel i C M O D n m c22 c23 hd hf hV
    obtain ⟨f, rfl⟩ : ∃ f, fuel = f + 1 := ⟨fuel - 1, by omega⟩
    refine ⟨(q_H b C M O D, n, m), ?_, Nat.le_refl _, Nat.le_refl _, ?_⟩
    · have h1 : (nI L - 6 < nI (6 * i)) = True := eq_true ((q_len6 hL (by omega)).mpr (by omega))
      have h2 : (some sb = some sb) = True := eq_true rfl
      show F_L_law_23B κ sb L xs _ _ _ _ _ _ _ = _
      unfold F_L_law_23B
      simp only [h1, q_gd_1, q_br_1, q_rz]
      rfl
    · obtain ⟨I, R, X, Y, Z⟩ := C
      obtain ⟨P, Q, S⟩ := M
      obtain ⟨_, _, _, _, _, _, _, _, _, ⟨_, _, _, h1, _⟩, ⟨_, _, _, h2, _⟩, _⟩ := hV
      refine ⟨?_, ?_⟩
      · show n + c22 + c23 ≤ _
        omega
      · show m + 4 * (c22 + c23) ≤ _
        omega
  | succ d ih =>
    intro fuel i C M O D n m c22 c23 hd hf hV
    obtain ⟨f, rfl⟩ : ∃ f, fuel = f + 1 := ⟨fuel - 1, by omega⟩
    obtain ⟨C1, M1, O1, D1, n1, m1, d22, d23, e1, e2, e3, e4, e5, e6⟩ := q_lawB (κ := κ) (b := b) (sb := sb) (xs := xs) (O := O) (m := m) (i := 6 * i) (by omega) hL (F_L_law_23 κ sb L xs f) hV (fun h9 => by have := (q_len6 hL (by omega)).mp h9; omega)
    obtain ⟨σ, f1, f2, f3, f4, f5⟩ := ih f (i + 1) C1 M1 O1 D1 n1 m1 d22 d23 (by omega) (by omega) e2
    have e6' : nI (6 * i) + 6 = nI (6 * (i + 1)) := nI_add (6 * i) 6
    rw [e6'] at e1
    exact ⟨σ, e1.trans f1, by omega, by omega, by omega, by omega⟩
end QLL
