abbrev q_Ins : Type := q_Nam × List Int32 × q_Ops × List (List Int32)
def q_pi (B : Nat → Int32) (l : List q_Tok) (L : List q_Knd) (ni z t : Nat) : q_Out (q_Ins × Nat) :=
  if (q_tok l t).1 = 1 then (if ni = 96 then .inl (3, t) else (match q_pp B l L (l.length + 1) [] [] (t + 1) with
    | .inl e => .inl e
    | .inr x => (match q_pb B l L x.2.1 z (l.length + 1) [] [] (x.2.2 + 1) with
      | .inl e => .inl e
      | .inr y => .inr ((q_tB B (q_tok l t), x.1, x.2.1, y.1), y.2 + 1)))) else .inl (1, t)
/-- an instruction object of the class that is read -/
def q_CIn (b n : Nat) (D : q_Mem) (Z : Nat → Nat → Option Nat) (L : List q_Knd) (z a : Nat) (J : q_Ins) : Prop := q_CIb b n D Z L.length z a J.1 J.2.1 J.2.2.1 J.2.2.2 [] ∧ J.2.1.length ≤ 12 ∧ J.2.2.1.length ≤ 5 ∧ J.2.2.2.length ≤ 4 ∧ 1 ≤ J.2.2.2.length ∧ (∀ w ∈ J.2.2.2, w.length = z) ∧ q_leg (q_kb L J.2.2.1) J.2.2.1.length J.2.2.2.flatten
theorem q_gd_t {β : Type} {c : Prop} [Decidable c] {f : q_X β} {σ : q_St} (h : c) : q_gd c f σ = f σ := if_pos h
section QIH
variable {κ : Nat → Nat} {b : Nat} {B : Nat → Int32} {l : List q_Tok} {zt t : Nat} {R : Nat → Nat → Option Nat} {X : Nat → Nat → Int32} {Z : Nat → Nat → Option Nat} {M : q_MT} {O : Nat → Int64}
theorem q_fill5 {I : Nat → Nat → Int32} {D : q_Mem} {s : Nat × Nat} : ∀ d fuel o (Y : Nat → Nat → Int64), o + d = 5 → d < fuel → (∀ i, i < o → Y 20 i = 0) → ∃ Y', F_J7_fill_d0a16_6 κ fuel (some (b + 20)) 0 (nI o) (nI 5) (q_H b (I, R, X, Y, Z) M O D, s) = some (.inl (), (q_H b (I, R, X, Y', Z) M O D, s)) ∧ (∀ j, j ≠ 20 → Y' j = Y j) ∧ ∀ i, i < 5 → Y' 20 i = 0 := by
  intro d
  induction d with
  | zero =>
    intro fuel o Y h1 h2 h3
    obtain ⟨f, rfl⟩ : ∃ f, fuel = f + 1 := ⟨fuel - 1, by omega⟩
    have h4 : 5 ≤ o := by omega
    refine ⟨Y, ?_, fun _ _ => rfl, fun i hi => h3 i (by omega)⟩
    rw [F_J7_fill_d0a16_6]
    simp (disch := first | rfl | omega | decide | exact Nat.le_of_ble_eq_true rfl) only [F_J7_fill_d0a16_6B, q_br, nI_leI, h4, if_true, q_rt]
  | succ d ih =>
    intro fuel o Y h1 h2 h3
    obtain ⟨f, rfl⟩ : ∃ f, fuel = f + 1 := ⟨fuel - 1, by omega⟩
    have h4 : ¬ 5 ≤ o := by omega
    obtain ⟨Y', r1, r2, r3⟩ := ih f (o + 1) (q_u2 Y 20 o 0) (by omega) (by omega) (fun i hi => by
      by_cases hio : i = o
      · subst hio; rw [q_u2_s, q_u1_s]
      · rw [q_u2_s, q_u1_n _ _ hio, h3 i (by omega)])
    refine ⟨Y', ?_, fun j hj => by rw [r2 j hj, q_u2_n _ _ _ hj], r3⟩
    refine Eq.trans ?_ r1
    rw [F_J7_fill_d0a16_6]
    simp (disch := first | rfl | omega | decide | exact Nat.le_of_ble_eq_true rfl) only [F_J7_fill_d0a16_6B, q_br, nI_leI, h4, if_false, ↓q_sL_20, nI_1]
theorem q_newIns {C : q_CT} {D : q_Mem} {n m am : Nat} {a : Nat} (hn : b + 66 < n) (ha : b + 66 < a ∧ D a = some (.inr (.inl (4, [.null, .null, .null, .null, .null, .null, .null, .int 0, .int 0, .int 0, .int 0])))) (han : a < n) : ∃ D', F_X1_init κ (some a) (some am) (q_H b C M O D, n, m) = some (.inl (), (q_H b C M O D', n + 6, m + 158)) ∧ D' a = some (.inr (.inl (4, [.ref am, .ref n, .ref (n + 1), .ref (n + 2), .ref (n + 3), .ref (n + 4), .ref (n + 5), .int 0, .int 0, .int 0, .int 0]))) ∧ D' n = some (.inl (1, 12, .inl (fun _ => 0))) ∧ D' (n + 1) = some (.inl (6, 5, .inr (.inr (.inr (.inr (fun _ => none)))))) ∧ D' (n + 2) = some (.inl (5, 5, .inr (.inr (.inr (.inr (fun _ => none)))))) ∧ D' (n + 3) = some (.inl (2, 4, .inr (.inl (fun _ => 0)))) ∧ D' (n + 4) = some (.inl (2, 4, .inr (.inl (fun _ => 0)))) ∧ D' (n + 5) = some (.inl (1, 128, .inl (fun _ => 0))) ∧ (∀ x, x ≠ a → x < n → D' x = D x) := by
  have e0 := ha.1
  have u1 : ∀ (D : q_Mem) (k : Nat) (e e' : q_Cel), a ≠ k → q_up (q_up D a e) k e' = q_up (q_up D k e') a e := by
    intro D k e e' hk
    funext x
    unfold q_up
    by_cases h1 : x = a
    · subst h1; simp [hk]
    · simp [h1]
  have n12 : q_nI 1 12 = .inl (1, 12, .inl (fun _ => 0)) := rfl
  have n5a : q_nA 6 5 = .inl (6, 5, .inr (.inr (.inr (.inr (fun _ => none))))) := rfl
  have n5b : q_nA 5 5 = .inl (5, 5, .inr (.inr (.inr (.inr (fun _ => none))))) := rfl
  have n4 : q_nL 4 = .inl (2, 4, .inr (.inl (fun _ => 0))) := rfl
  have n128 : q_nI 1 128 = .inl (1, 128, .inl (fun _ => 0)) := rfl
  have g12 : ¬ (12 : Int32) < 0 ∧ (12 : Int32).toNatClampNeg ≤ 65536 := by decide
  have g5 : ¬ (5 : Int32) < 0 ∧ (5 : Int32).toNatClampNeg ≤ 65536 := by decide
  have g4 : ¬ (4 : Int32) < 0 ∧ (4 : Int32).toNatClampNeg ≤ 65536 := by decide
  have g128 : ¬ (128 : Int32) < 0 ∧ (128 : Int32).toNatClampNeg ≤ 65536 := by decide
  have t12 : (12 : Int32).toNatClampNeg = 12 := by decide
  have t5 : (5 : Int32).toNatClampNeg = 5 := by decide
  have t4 : (4 : Int32).toNatClampNeg = 4 := by decide
  have t128 : (128 : Int32).toNatClampNeg = 128 := by decide
  refine ⟨q_up (q_up (q_up (q_up (q_up (q_up (q_up D n (.inl (1, 12, .inl (fun _ => 0)))) (n + 1) (.inl (6, 5, .inr (.inr (.inr (.inr (fun _ => none))))))) (n + 2) (.inl (5, 5, .inr (.inr (.inr (.inr (fun _ => none))))))) (n + 3) (.inl (2, 4, .inr (.inl (fun _ => 0))))) (n + 4) (.inl (2, 4, .inr (.inl (fun _ => 0))))) (n + 5) (.inl (1, 128, .inl (fun _ => 0)))) a (.inr (.inl (4, [.ref am, .ref n, .ref (n + 1), .ref (n + 2), .ref (n + 3), .ref (n + 4), .ref (n + 5), .int 0, .int 0, .int 0, .int 0]))), ?_, q_up_s _ _ _, ?_, ?_, ?_, ?_, ?_, ?_, ?_⟩
  · have ha1 : b + 66 < a ∧ q_up D n (.inl (1, 12, .inl (fun _ => 0))) a = some (.inr (.inl (4, [.null, .null, .null, .null, .null, .null, .null, .int 0, .int 0, .int 0, .int 0]))) := ⟨e0, by rw [q_up_n _ _ (by omega), ha.2]⟩
    unfold F_X1_init
    rw [q_gd_t (by simp), q_gd_t g12, t12, n12, q_mk_H hn, qd_W ha1 (by simp)]
    simp only [List.set_cons_succ, List.set_cons_zero, va_rf]
    rw [q_gd_t g5, t5, n5a, q_mk_H (by omega), u1 _ _ _ _ (by omega), qd_Wu e0 (by simp)]
    simp only [List.set_cons_succ, List.set_cons_zero]
    rw [q_gd_t (show ¬ (5 : Int32) < 0 ∧ 5 ≤ 65536 by decide), n5b, q_mk_H (by omega), u1 _ _ _ _ (by omega), qd_Wu e0 (by simp)]
    simp only [List.set_cons_succ, List.set_cons_zero]
    rw [q_gd_t g4, t4, n4, q_mk_H (by omega), u1 _ _ _ _ (by omega), qd_Wu e0 (by simp)]
    simp only [List.set_cons_succ, List.set_cons_zero]
    rw [q_gd_t (show ¬ (4 : Int32) < 0 ∧ 4 ≤ 65536 by decide), q_mk_H (by omega), u1 _ _ _ _ (by omega), qd_Wu e0 (by simp)]
    simp only [List.set_cons_succ, List.set_cons_zero]
    rw [q_gd_t g128, t128, n128, q_mk_H (by omega), u1 _ _ _ _ (by omega), qd_Wu e0 (by simp)]
    simp only [List.set_cons_succ, List.set_cons_zero]
    rw [qd_Wu e0 (by simp)]
    rfl
  · rw [q_up_n _ _ (by omega), q_up_n _ _ (by omega), q_up_n _ _ (by omega), q_up_n _ _ (by omega), q_up_n _ _ (by omega), q_up_n _ _ (by omega), q_up_s]
  · rw [q_up_n _ _ (by omega), q_up_n _ _ (by omega), q_up_n _ _ (by omega), q_up_n _ _ (by omega), q_up_n _ _ (by omega), q_up_s]
  · rw [q_up_n _ _ (by omega), q_up_n _ _ (by omega), q_up_n _ _ (by omega), q_up_n _ _ (by omega), q_up_s]
  · rw [q_up_n _ _ (by omega), q_up_n _ _ (by omega), q_up_n _ _ (by omega), q_up_s]
  · rw [q_up_n _ _ (by omega), q_up_n _ _ (by omega), q_up_s]
  · rw [q_up_n _ _ (by omega), q_up_s]
  · intro x x1 x2
    rw [q_up_n _ _ x1, q_up_n _ _ (by omega), q_up_n _ _ (by omega), q_up_n _ _ (by omega), q_up_n _ _ (by omega), q_up_n _ _ (by omega), q_up_n _ _ (by omega)]
theorem q_CWd_0 {z : Nat} : q_CWd z ([] ++ [[]]) (fun _ => 0) (fun _ => 0) (fun _ => 0) := by
  intro w hw
  refine ⟨0, 0, rfl, rfl, by decide, by decide, fun j hj => ?_⟩
  have e : ([] ++ [([] : List Int32)]).getD w [] = [] := by
    rw [q_lw]
    split
    · rfl
    · simp
  rw [e]
  have e2 : q_ca9 z [] j = none := by unfold q_ca9; split <;> simp
  simp [q_cm, q_cd, q_cs, e2]
end QIH
