def q_fin1 (en : Nat) (r : Option (Nat × (Nat → Nat))) : Bool := match r with
  | none => false
  | some y => decide (y.1 = en)
section QIW
variable {κ : Nat → Nat} {b : Nat} {B : Nat → Int32} {l : List q_Tok} {zt : Nat} {I : Nat → Nat → Int32} {R : Nat → Nat → Option Nat} {X : Nat → Nat → Int32} {Y : Nat → Nat → Int64} {Z : Nat → Nat → Option Nat} {M : q_MT} {O : Nat → Int64} {s : Nat × Nat}
theorem q_isW_10 {D0 : q_Mem} {n0 z ja a hd en : Nat} {L : List q_Knd} {J : q_Ins} {LT : List Nat} {v0 v1 v2 v3 v5 v6 v7 : Value} (hT : q_TC B l zt I X Y) (hE : q_LE l hd en) (hY : ∀ t, hd < t → t < en → (q_tok l t).1 = 1 → Y 7 t = (q_mv (q_lk B l LT t)).toInt64) (hLT : LT.length ≤ 6100) (hJ : q_CIn b n0 D0 Z L z ja J) (hCM : q_CMk b n0 D0 I Z L) (hJk : q_Jok J) (ha : n0 ≤ a) (hn0 : b + 66 < n0) : ∀ d fuel k t (ps : Nat → Nat) (f : Nat → Int32) (D : q_Mem), k + d = J.2.1.length → d < fuel → q_S8 n0 D0 D → D a = some (.inr (.inl (6, [v0, v1, v2, v3, .ref (a + 1), v5, v6, v7]))) → D (a + 1) = some (.inl (1, 5, .inl f)) → hd < t → t ≤ en → (∀ o, o < J.2.2.1.length → -1 - nI o ∉ J.2.1.drop k → f o = nI (ps o)) → ∃ f', F_X8_isWrittenAs_10 κ fuel (some (b + 21)) (some a) (some ja) (nI t) (nI k) (q_H b (I, R, X, Y, Z) M O D, s) = some (.inl (q_b (q_fin1 en (q_fw B l LT L J.2.2.1 (J.2.1.drop k) t ps))), (q_H b (I, R, X, Y, Z) M O (q_up D (a + 1) (.inl (1, 5, .inl f'))), s)) ∧ ∀ y, q_fw B l LT L J.2.2.1 (J.2.1.drop k) t ps = some y → ∀ o, o < J.2.2.1.length → f' o = nI (y.2 o) := by
  have hzt := hT.2.2.1
  have hl := hT.2.1
  have hno := hJk.1.1
  have h12 := hJ.2.1
  obtain ⟨fm, fd, fs, hCo, -⟩ := q_CIn_o hJ
  intro d
  induction d with
  | zero =>
    intro fuel k t ps f D h1 h2 hS hA1 hA2 ht1 ht2 hf
    obtain ⟨g, rfl⟩ : ∃ g, fuel = g + 1 := ⟨fuel - 1, by omega⟩
    have h3 : J.2.1.length ≤ k := by omega
    have hDD : ∀ x, b < x → x < n0 → q_t7 (D0 x) = false → D x = D0 x := fun x _ hx h7 => hS x hx h7
    obtain ⟨k1, k2, k3, -⟩ := q_CIo_m7 hCo (Nat.le_refl _) hDD
    have e3 := And.intro k1 k3
    have le := q_isLE (κ := κ) (b := b) (R := R) (Z := Z) (M := M) (O := O) (D := D) (s := s) (h := t) hT (by have := hE.2.1; omega)
    have de : decide ((q_tok l t).1 = 4 ∨ (q_tok l t).1 = 5) = decide (t = en) := by
      apply decide_eq_decide.mpr
      constructor
      · intro h9
        rcases Nat.lt_or_ge t en with h8 | h8
        · have := hE.2.2.1 t (by omega) h8
          omega
        · omega
      · intro h9
        rw [h9]
        exact hE.2.2.2
    rw [de] at le
    refine ⟨f, ?_, ?_⟩
    · rw [q_up_id hA2, List.drop_eq_nil_of_le h3, F_X8_isWrittenAs_10]
      simp (disch := first | rfl | omega | decide | exact Nat.le_of_ble_eq_true rfl) only [↓q_br, q_rt, q_rz, q_gd, q_ca, ↓reduceIte, F_X8_isWrittenAs_10B, ↓q_gA_21_1, ↓q_is_2, ↓q_is_21, qd_I e3 (k := 7) (v := nI J.2.1.length) rfl, nI_leI, h3, le, q_b_1]
      rfl
    · intro y hy
      rw [List.drop_eq_nil_of_le h3] at hy hf
      cases hy
      exact fun o ho => hf o ho (fun h9 => by cases h9)
  | succ d ih =>
    intro fuel k t ps f D h1 h2 hS hA1 hA2 ht1 ht2 hf
    obtain ⟨g, rfl⟩ : ∃ g, fuel = g + 1 := ⟨fuel - 1, by omega⟩
    have h3 : ¬ J.2.1.length ≤ k := by omega
    have h6 : k < J.2.1.length := by omega
    have hk12 : k < 12 := by omega
    have hDD : ∀ x, b < x → x < n0 → q_t7 (D0 x) = false → D x = D0 x := fun x _ hx h7 => hS x hx h7
    have hCo' := q_CIo_m7 hCo (Nat.le_refl _) hDD
    obtain ⟨fk, y1, y2⟩ := q_okd hCo' (q_CMk_m7 hCM (I' := I) (Z' := Z) (Nat.le_refl _) hDD rfl rfl)
    obtain ⟨k1, k2, k3, k4, k5, k6, k7, fp, fo, fk', k8, k9, k10, k11, k12⟩ := hCo'
    have e3 := And.intro k1 k3
    have e8 : b + 66 < ja + 3 ∧ D (ja + 3) = some (.inl (1, 12, .inl fp)) := ⟨by omega, k8⟩
    have e5 : b + 66 < ja + 5 ∧ D (ja + 5) = some (.inl (5, 5, .inr (.inr (.inr (.inr fk))))) := ⟨by omega, y1⟩
    have ea : b + 66 < a ∧ D a = some (.inr (.inl (6, [v0, v1, v2, v3, .ref (a + 1), v5, v6, v7]))) := ⟨by omega, hA1⟩
    have ea2 : b + 66 < a + 1 ∧ D (a + 1) = some (.inl (1, 5, .inl f)) := ⟨by omega, hA2⟩
    have pe : fp k = J.2.1.getD k 0 := by
      rw [k11 k _ (List.getElem?_eq_getElem h6), List.getD_eq_getElem?_getD, List.getElem?_eq_getElem h6]
      rfl
    have dr := q_drop_s (d := 0) h6
    rw [dr] at hf ⊢
    obtain ⟨p, hp⟩ : ∃ p, p = J.2.1.getD k 0 := ⟨_, rfl⟩
    have pm := q_ps_at h6
    rw [← hp] at pe pm hf ⊢
    rw [F_X8_isWrittenAs_10]
    rcases hJk.1.2.1 p pm with ⟨o, o1, o2⟩ | hsg
    · have o5 : o < 5 := by omega
      have np2 : p < 0 := by rw [o2]; exact Int32.not_le.mp (q_m1n o5)
      have eo : -1 - p = nI o := by rw [o2, q_m1]
      have on : q_opn p = o := by rw [o2, q_opn_o o5]
      obtain ⟨ka, z1, z2⟩ := y2 o o1
      have oe := q_operandEnd (κ := κ) (b := b) (R := R) (Z := Z) (M := M) (O := O) (s := s) (t := t) (LT := LT) hT z2 (by have := hE.2.1; omega) hLT (fun c1 _ _ => hY t ht1 (by
        rcases Nat.lt_or_ge t en with h8 | h8
        · exact h8
        · have h7 : t = en := by omega
          have := hE.2.2.2
          rw [← h7] at this
          omega) c1)
      have e4 : q_fw B l LT L J.2.2.1 (p :: J.2.1.drop (k + 1)) t ps = (match q_opd B l LT (q_ok L J.2.2.1 o) t with
        | none => none
        | some x => q_fw B l LT L J.2.2.1 (J.2.1.drop (k + 1)) x.1 (q_u1 ps o t)) := by
        rw [q_fw, if_pos np2, on]
        rfl
      rw [e4]
      cases hx : q_opd B l LT (q_ok L J.2.2.1 o) t with
      | none =>
        rw [hx] at oe
        have mv : q_mv (Option.map (fun x => x.1) (none : Option q_Opd)) = -1 := rfl
        have n0' : ((0 : Int32) ≤ -1) = False := eq_false (by decide)
        rw [mv] at oe
        refine ⟨f, ?_, fun y hy => by cases hy⟩
        rw [q_up_id hA2]
        simp (disch := first | rfl | omega | decide | exact Nat.le_of_ble_eq_true rfl) only [↓q_br, q_rt, q_rz, q_gd, q_ca, ↓reduceIte, F_X8_isWrittenAs_10B, ↓q_gA_21_1, ↓q_is_2, ↓q_is_21, qd_I e3 (k := 7) (v := nI J.2.1.length) rfl, nI_leI, h3, qd_A e3 (k := 1) (r := some (ja + 3)) rfl, qd_aI e8 hk12 (by decide), pe, np2, qd_A e3 (k := 3) (r := some (ja + 5)) rfl, eo, qd_aA e5 o5 (by decide), z1, oe, n0', true_or]
        rfl
      | some x =>
        rw [hx] at oe
        obtain ⟨g1, g2, g3⟩ := q_opd_en hE (by omega) ht2 hx
        have mv : q_mv (Option.map (fun x => x.1) (some x)) = nI x.1 := rfl
        have p0 : ((0 : Int32) ≤ nI x.1) = True := eq_true (nI_pos' (by have := hE.2.1; omega))
        rw [mv] at oe
        obtain ⟨f', r1, r2⟩ := ih g (k + 1) x.1 (q_u1 ps o t) (q_u1 f o (nI t)) (q_up D (a + 1) (.inl (1, 5, .inl (q_u1 f o (nI t))))) (by omega) (by omega) (q_S8_up hS (by omega)) (by rw [q_up_n _ _ (by omega)]; exact hA1) (q_up_s _ _ _) (by omega) g3 (fun u hu hm => by
          by_cases hou : u = o
          · rw [hou, q_u1_s, q_u1_s]
          · rw [q_u1_n _ _ hou, q_u1_n _ _ hou]
            refine hf u hu (fun h9 => ?_)
            rcases List.mem_cons.mp h9 with h8 | h8
            · exact hou (q_opn_i (by omega) o5 (by rw [h8, o2]))
            · exact hm h8)
        refine ⟨f', ?_, r2⟩
        rw [q_up_up] at r1
        simp (disch := first | rfl | omega | decide | exact Nat.le_of_ble_eq_true rfl) only [↓q_br, q_rt, q_rz, q_gd, q_ca, ↓reduceIte, F_X8_isWrittenAs_10B, F_X8_isWrittenAs_86, ↓q_gA_21_1, ↓q_is_2, ↓q_is_21, qd_I e3 (k := 7) (v := nI J.2.1.length) rfl, nI_leI, h3, qd_A e3 (k := 1) (r := some (ja + 3)) rfl, qd_aI e8 hk12 (by decide), pe, np2, qd_A e3 (k := 3) (r := some (ja + 5)) rfl, eo, qd_aA e5 o5 (by decide), z1, oe, p0, qd_A ea (k := 4) (r := some (a + 1)) rfl, qd_wI ea2 o5 (by decide), nI_1, r1]
    · have np : ¬ p < 0 := q_t10_p p hsg
      have sg := q_isSign (κ := κ) (b := b) (R := R) (Z := Z) (M := M) (O := O) (D := D) (s := s) (t := t) (c := p) hT (by have := hE.2.1; omega)
      have e4 : q_fw B l LT L J.2.2.1 (p :: J.2.1.drop (k + 1)) t ps = (if q_sgn l t p = true then q_fw B l LT L J.2.2.1 (J.2.1.drop (k + 1)) (t + 1) ps else none) := by
        rw [q_fw, if_neg np]
      rw [e4]
      cases cs : q_sgn l t p with
      | false =>
        rw [cs] at sg
        rw [if_neg (by decide)]
        refine ⟨f, ?_, fun y hy => by cases hy⟩
        rw [q_up_id hA2]
        simp (disch := first | rfl | omega | decide | exact Nat.le_of_ble_eq_true rfl) only [↓q_br, q_rt, q_rz, q_gd, q_ca, ↓reduceIte, F_X8_isWrittenAs_10B, ↓q_gA_21_1, ↓q_is_2, ↓q_is_21, qd_I e3 (k := 7) (v := nI J.2.1.length) rfl, nI_leI, h3, qd_A e3 (k := 1) (r := some (ja + 3)) rfl, qd_aI e8 hk12 (by decide), pe, np, sg, q_b_0, not_true_eq_false, true_or]
        rfl
      | true =>
        rw [cs] at sg
        rw [if_pos rfl]
        have k9 : t < en := by
          rcases Nat.lt_or_ge t en with h9 | h9
          · exact h9
          · have h7 : t = en := by omega
            have c3 := q_sgn_3 cs
            have := hE.2.2.2
            rw [← h7] at this
            omega
        obtain ⟨f', r1, r2⟩ := ih g (k + 1) (t + 1) ps f D (by omega) (by omega) hS hA1 hA2 (by omega) k9 (fun u hu hm => by
          refine hf u hu (fun h9 => ?_)
          rcases List.mem_cons.mp h9 with h8 | h8
          · exact np (by rw [← h8]; exact Int32.not_le.mp (q_m1n (by omega)))
          · exact hm h8)
        refine ⟨f', ?_, r2⟩
        simp (disch := first | rfl | omega | decide | exact Nat.le_of_ble_eq_true rfl) only [↓q_br, q_rt, q_rz, q_gd, q_ca, ↓reduceIte, F_X8_isWrittenAs_10B, F_X8_isWrittenAs_86, ↓q_gA_21_1, ↓q_is_2, ↓q_is_21, qd_I e3 (k := 7) (v := nI J.2.1.length) rfl, nI_leI, h3, qd_A e3 (k := 1) (r := some (ja + 3)) rfl, qd_aI e8 hk12 (by decide), pe, np, sg, q_b_0, Bool.true_eq_false, not_false_eq_true, nI_1, r1]
end QIW
