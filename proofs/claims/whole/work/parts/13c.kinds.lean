/-! ===== a kind of a description: what it must come to ===== -/
abbrev q_Out (α : Type) : Type := (Nat × Nat) ⊕ α
def q_mb (B : Nat → Int32) (l : List q_Tok) (t : Nat) (mem : List q_Nam) : Bool := (q_fi (fun i => decide (q_tB B (q_tok l t) = mem.getD i [])) mem.length 0).isSome
def q_mset (B : Nat → Int32) (l : List q_Tok) : Nat → List q_Nam → Nat → q_Out (List q_Nam × Nat)
  | 0, _, t => .inl (1, t)
  | f + 1, mem, t => if (q_tok l t).1 = 1 then (if q_mb B l t mem = true then .inl (2, t) else if mem.length = 32 then .inl (3, t) else q_mset B l f (mem ++ [q_tB B (q_tok l t)]) (t + 1)) else if mem.length < 2 then .inl (1, t) else .inr (mem, t)
def q_vn (l : List q_Tok) (t : Nat) : Nat := (q_nv l t).toInt.toNat
theorem q_vn_e {B : Nat → Int32} {z : Nat} {l : List q_Tok} {t : Nat} (h : q_WF B z l) (hy : (q_tok l t).1 = 2) : q_nv l t = lN (q_vn l t) ∧ q_vn l t < 4294967296 := by
  have hlt := q_tok_lt (l := l) (t := t) (by omega)
  obtain ⟨v, hv, e⟩ := (h t _ (q_tok_s hlt)).2.2.2.2.1 hy
  have e1 : q_vn l t = v := by
    unfold q_vn q_nv
    rw [e, q_lN_i (by omega)]
    rfl
  rw [e1]
  exact ⟨e, hv⟩
def q_fin (l : List q_Tok) (K : q_Knd) (t : Nat) : q_Out (q_Knd × Nat) := if q_sgn l t 59 = true then .inr (K, t + 1) else .inl (1, t)
def q_nmc (e : q_Cel) : Bool := match e with
  | .inl p => p.1 == 0
  | .inr (.inl p) => p.1 == 10
  | _ => false
theorem q_CN_up {b n x a : Nat} {D : q_Mem} {nm : q_Nam} {e e' : q_Cel} (h : q_CN b n D x nm) (ha : D a = some e) (he : q_nmc e = false) : q_CN b n (q_up D a e') x nm := by
  obtain ⟨l, f, h1, h2, h3, h4, h5, h6, h7⟩ := h
  have n1 : x ≠ a := by
    rintro rfl
    rw [h5] at ha
    cases ha
    exact absurd he (by simp [q_nmc])
  have n2 : l ≠ a := by
    rintro rfl
    rw [h6] at ha
    cases ha
    exact absurd he (by simp [q_nmc])
  exact ⟨l, f, h1, h2, h3, h4, by rw [q_up_n _ _ n1, h5], by rw [q_up_n _ _ n2, h6], h7⟩
theorem q_CN_new {b n n' x a : Nat} {D : q_Mem} {nm : q_Nam} {e' : q_Cel} (h : q_CN b n D x nm) (ha : n ≤ a) (hn : n ≤ n') : q_CN b n' (q_up D a e') x nm := q_CN_mo h hn (fun y _ hy => q_up_n _ _ (by omega))
section QST
variable {β : Type} {b i x ci : Nat} {fs : List Value} {I : Nat → Nat → Int32} {R : Nat → Nat → Option Nat} {X : Nat → Nat → Int32} {Y : Nat → Nat → Int64} {Z : Nat → Nat → Option Nat} {C : q_CT} {M : q_MT} {O : Nat → Int64} {D : q_Mem} {s : Nat × Nat} {f : q_X β}
theorem qd_sT {t a n : Nat} {g : Nat → Option Nat} (h : b + 66 < a ∧ D a = some (.inl (t, n, .inr (.inr (.inr (.inr g)))))) (hx : b + 66 < x ∧ D x = some (.inr (.inl (ci, fs)))) (hi : i < n) (hn : n < 2 ^ 31) : q_wr (q_sT t ci (some a) (nI i) (some x)) f (q_H b C M O D, s) = f (q_H b C M O (q_up D a (.inl (t, n, .inr (.inr (.inr (.inr (q_u1 g i (some x)))))))), s) := by
  obtain ⟨e1, e2⟩ := q_nI_b hi hn
  refine q_wr_g ?_
  unfold q_sT
  simp only
  rw [q_fs_d (Or.inr hx.1)]
  unfold q_fs
  simp only [hx.2, if_true, Option.bind_some]
  unfold q_sA
  rw [q_ar_d (Or.inr h.1)]
  unfold q_ar
  simp only [h.2, Option.bind_some, e1, e2, not_false_eq_true, and_self, if_true]
  rw [q_H_upd (Or.inr h.1)]
  rfl
theorem qd_sZ {t j n : Nat} (h : q_okA j t n = true) (ht : 4 ≤ t) (hj : 0 < j ∧ j < 26) (hx : b + 66 < x ∧ D x = some (.inr (.inl (ci, fs)))) (hi : i < n) (hn : n < 2 ^ 31) : q_wr (q_sT t ci (some (b + j)) (nI i) (some x)) f (q_H b (I, R, X, Y, Z) M O D, s) = f (q_H b (I, R, X, Y, q_u2 Z j i (some x)) M O D, s) := by
  refine q_wr_g ?_
  unfold q_sT
  simp only
  rw [q_fs_d (Or.inr hx.1)]
  unfold q_fs
  simp only [hx.2, if_true, Option.bind_some]
  exact q_sA_s h ht hj hi hn
end QST
section QKC
variable {κ : Nat → Nat} {b : Nat} {B : Nat → Int32} {l : List q_Tok} {z t : Nat} {R : Nat → Nat → Option Nat} {X : Nat → Nat → Int32} {Y : Nat → Nat → Int64} {Z : Nat → Nat → Option Nat} {M : q_MT} {O : Nat → Int64}
theorem q_TC_I {I I' : Nat → Nat → Int32} (h : q_TC B l z I X Y) (h2 : I' 2 6 = I 2 6) : q_TC B l z I' X Y := ⟨h2.trans h.1, h.2⟩
theorem q_mb_m {mem : List q_Nam} (hm : mem.length < 100) : (q_mv (q_fi (fun i => decide (q_tB B (q_tok l t) = mem.getD i [])) mem.length 0) < 0) ↔ q_mb B l t mem = false := by
  unfold q_mb
  cases h : q_fi (fun i => decide (q_tB B (q_tok l t) = mem.getD i [])) mem.length 0 with
  | none => simp [q_mv]
  | some i =>
    have h1 := (q_fi_s _ _ _ h).2.1
    simp only [Option.isSome_some, Bool.true_eq_false, iff_false, q_mv]
    exact nI_pos (by omega)
theorem q_readMembers_2 : ∀ f fuel t (I : Nat → Nat → Int32) (D : q_Mem) (n m a a1 a2 a3 : Nat) (g : Nat → Option Nat) (nm wr : q_Nam) (mem : List q_Nam) (bt : Nat), q_TC B l z I X Y → I 14 1 = nI t → t ≤ l.length → l.length < t + f → mem.length ≤ t → mem.length ≤ 32 → f < fuel → b + 66 < n → q_CKo b n D a a1 a2 a3 g (4, nm, wr, mem, mem.length, bt) →
    ∃ D' n' m', (∀ x, x < n → x ≠ a → x ≠ a3 → D' x = D x) ∧ n ≤ n' ∧ n' ≤ n + 2 * (33 - mem.length) ∧ m ≤ m' ∧ m' ≤ m + 21 * (33 - mem.length) ∧ (match q_mset B l f mem t with
      | .inl (k, p) => F_X0_readMembers_2 κ fuel (some (b + 19)) (some a) (nI mem.length) (q_H b (I, R, X, Y, Z) M O D, n, m) = some (.inl 0, (q_H b (q_ft (q_u2 I 14 1 (nI p)) (nI k) (nI p), R, X, Y, Z) M O D', n', m')) ∧ 1 ≤ k ∧ k ≤ 3
      | .inr (mem', t') => F_X0_readMembers_2 κ fuel (some (b + 19)) (some a) (nI mem.length) (q_H b (I, R, X, Y, Z) M O D, n, m) = some (.inl 1, (q_H b (q_u2 I 14 1 (nI t'), R, X, Y, Z) M O D', n', m')) ∧ t ≤ t' ∧ t' ≤ l.length ∧ mem'.length ≤ 32 ∧ 2 ≤ mem'.length ∧ ∃ g', q_CKo b n' D' a a1 a2 a3 g' (4, nm, wr, mem', mem'.length, q_nd mem'.length 6 1)) := by
  intro f
  induction f with
  | zero => intro fuel t I D n m a a1 a2 a3 g nm wr mem bt h1 h2 h3 h4; omega
  | succ f ih =>
    intro fuel t I D n m a a1 a2 a3 g nm wr mem bt h ha ht htf hmt hm32 hf hn hk
    obtain ⟨fu, rfl⟩ : ∃ fu, fuel = fu + 1 := ⟨fuel - 1, by omega⟩
    have hz := h.2.2.1
    have hl := h.2.1
    have hI : q_u2 I 14 1 (nI t) = I := q_u2_id _ _ _ ha
    have hk0 := hk
    obtain ⟨k1, k2, k3, k4, k5, k6, k7, k8, k9⟩ := hk
    simp only [q_kS, q_kN, q_kW, q_kM, q_kZ, q_kB, if_true] at k3 k4 k5 k8 k9
    have e3 : b + 66 < a ∧ D a = some (.inr (.inl (5, [.int (nI 4), .ref a1, .ref a2, .ref a3, .int (nI mem.length), .int (nI bt)]))) := ⟨k1, k3⟩
    have e4 : b + 66 < a3 ∧ D a3 = some (.inl (6, 32, .inr (.inr (.inr (.inr g))))) := ⟨k6, k8⟩
    have n13 : a ≠ a3 := by
      rintro rfl
      rw [k3] at k8
      cases k8
    have c1 : ¬ l.length < mem.length := by omega
    have c2 := q_isAtName (κ := κ) (b := b) (R := R) (Z := Z) (M := M) (O := O) (D := D) (s := (n, m)) h ha (by omega)
    have hfl := fun k => q_fail (κ := κ) (b := b) (R := R) (X := X) (Y := Y) (Z := Z) (M := M) (O := O) (D := D) (s := (n, m)) (k := k) ha
    unfold q_mset
    by_cases hy : (q_tok l t).1 = 1
    · rw [if_pos hy]
      have hlt := q_tok_lt (l := l) (t := t) (by omega)
      have e5 := q_memberAt (κ := κ) (R := R) (Z := Z) (M := M) (O := O) (s := (n, m)) h hy hk0 rfl rfl hm32
      simp only [q_kM] at e5
      have e6 := q_mb_m (B := B) (l := l) (t := t) (mem := mem) (by omega)
      by_cases hin : q_mb B l t mem = true
      · rw [if_pos hin]
        have e7 : ¬ q_mb B l t mem = false := by rw [hin]; decide
        refine ⟨D, n, m, fun _ _ _ _ => rfl, Nat.le_refl _, by omega, Nat.le_refl _, by omega, ?_, by decide, by decide⟩
        rw [hI]
        simp (disch := first | rfl | omega | decide | exact Nat.le_of_ble_eq_true rfl) only [F_X0_readMembers_2, ↓q_br, q_rt, q_rz, q_gd, q_ca, ↓reduceIte, F_X0_readMembers_2B, ↓q_gA_19_0, ↓q_gA_19_1, ↓q_gI_14_1, ↓q_gI_2_6, ↓q_is_14, ↓q_pI_14_1, ↓q_gI_2_6, ↓q_gI_14_1, ↓q_is_14, h.1, nI_ltI, c1, c2, q_b_0, hy, ha, decide_true, Bool.true_eq_false, qd_S e3, e5, e6, e7, hfl, true_or]
        rfl
      · have hin' : q_mb B l t mem = false := by simpa using hin
        rw [if_neg hin]
        by_cases h32 : mem.length = 32
        · rw [if_pos h32]
          refine ⟨D, n, m, fun _ _ _ _ => rfl, Nat.le_refl _, by omega, Nat.le_refl _, by omega, ?_, by decide, by decide⟩
          rw [hI]
          have e8 : nI mem.length = 32 := by rw [h32]; rfl
          have c3 : ¬ nI l.length < (32 : Int32) := by
            rw [← e8, nI_ltI (by omega) (by omega)]
            omega
          simp (disch := first | rfl | omega | decide | exact Nat.le_of_ble_eq_true rfl) only [F_X0_readMembers_2, ↓q_br, q_rt, q_rz, q_gd, q_ca, ↓reduceIte, F_X0_readMembers_2B, ↓q_gA_19_0, ↓q_gA_19_1, ↓q_gI_14_1, ↓q_gI_2_6, ↓q_is_14, ↓q_pI_14_1, ↓q_gI_2_6, ↓q_gI_14_1, ↓q_is_14, h.1, c3, c2, q_b_0, hy, ha, decide_true, Bool.true_eq_false, qd_S e3, e5, e6, hin', qd_I e3 (k := 4) (v := nI mem.length) rfl, e8, not_true_eq_false, hfl, true_or]
          rfl
        · rw [if_neg h32]
          have e8 : ¬ nI mem.length = 32 := fun h9 => h32 ((nI_eq (b := 32) (by omega) (by decide)).mp h9)
          obtain ⟨w1, w2, w3, w4, -⟩ := h.2.2.2.2.1 t _ (q_tok_s hlt)
          have w5 := w4 hy
          obtain ⟨D2, d1, d2, d3⟩ := q_newName (κ := κ) (b := b) (R := R) (Z := Z) (M := M) (O := O) (D := q_up D n (.inr (.inl (10, [.null])))) (a := n) (n := n + 1) (m := m + 1) h hy (by omega) ⟨hn, by omega⟩ (q_up_s _ _ _)
          have dD : ∀ x, x < n → D2 x = D x := fun x hx => by rw [d3 x (by omega) (by omega), q_up_n _ _ (by omega)]
          have e3' : b + 66 < a ∧ D2 a = some (.inr (.inl (5, [.int (nI 4), .ref a1, .ref a2, .ref a3, .int (nI mem.length), .int (nI bt)]))) := ⟨k1, by rw [dD a k2]; exact k3⟩
          have e4' : b + 66 < a3 ∧ D2 a3 = some (.inl (6, 32, .inr (.inr (.inr (.inr g))))) := ⟨k6, by rw [dD a3 k7]; exact k8⟩
          have d4 : b + 66 < n ∧ ∃ la, D2 n = some (.inr (.inl (10, [.ref la]))) := by
            obtain ⟨la, g', y1, y2, y3, y4, y5, y6⟩ := d2
            exact ⟨y1, la, y5⟩
          obtain ⟨d4, la, d5⟩ := d4
          have d6 : b + 66 < n ∧ D2 n = some (.inr (.inl (10, [.ref la]))) := ⟨d4, d5⟩
          have e9 : b + 66 < a ∧ q_up D2 a3 (.inl (6, 32, .inr (.inr (.inr (.inr (q_u1 g mem.length (some n))))))) a = some (.inr (.inl (5, [.int (nI 4), .ref a1, .ref a2, .ref a3, .int (nI mem.length), .int (nI bt)]))) := ⟨k1, by rw [q_up_n _ _ n13]; exact e3'.2⟩
          have hlen : (mem ++ [q_tB B (q_tok l t)]).length = mem.length + 1 := by simp
          have step : F_X0_readMembers_2 κ (fu + 1) (some (b + 19)) (some a) (nI mem.length) (q_H b (I, R, X, Y, Z) M O D, n, m) = F_X0_readMembers_2 κ fu (some (b + 19)) (some a) (nI (mem ++ [q_tB B (q_tok l t)]).length) (q_H b (q_u2 I 14 1 (nI (t + 1)), R, X, Y, Z) M O (q_up (q_up D2 a3 (.inl (6, 32, .inr (.inr (.inr (.inr (q_u1 g mem.length (some n)))))))) a (.inr (.inl (5, [.int (nI 4), .ref a1, .ref a2, .ref a3, .int (nI (mem.length + 1)), .int (nI bt)])))), n + 1 + 1, m + 1 + ((q_tok l t).2.2.1 - (q_tok l t).2.1)) := by
            rw [hlen]
            simp (disch := first | rfl | omega | decide | exact Nat.le_of_ble_eq_true rfl) only [F_X0_readMembers_2, ↓q_br, q_rt, q_rz, q_gd, q_ca, ↓reduceIte, F_X0_readMembers_2B, ↓q_gA_19_0, ↓q_gA_19_1, ↓q_gI_14_1, ↓q_gI_2_6, ↓q_is_14, ↓q_pI_14_1, ↓q_gI_2_6, ↓q_gI_14_1, ↓q_is_14, h.1, nI_ltI, c1, c2, q_b_0, hy, ha, decide_true, Bool.true_eq_false, qd_S e3, e5, e6, hin', qd_I e3 (k := 4) (v := nI mem.length) rfl, e8, not_false_eq_true, qd_A e3 (k := 3) (r := some a3) rfl, q_mk_H, reduceCtorEq, d1, nI_1]
            rw [qd_sT e4' d6 (by omega) (by decide)]
            simp (disch := first | rfl | omega | decide | exact Nat.le_of_ble_eq_true rfl) only [qd_I e9 (k := 4) (v := nI mem.length) rfl, nI_1]
            rw [qd_W e9 (by simp)]
            simp (disch := first | rfl | omega | decide | exact Nat.le_of_ble_eq_true rfl) only [↓q_gA_19_0, ↓q_gI_14_1, ↓q_pI_14_1, ha, nI_1]
            rfl
          have hck : q_CKo b (n + 1 + 1) (q_up (q_up D2 a3 (.inl (6, 32, .inr (.inr (.inr (.inr (q_u1 g mem.length (some n)))))))) a (.inr (.inl (5, [.int (nI 4), .ref a1, .ref a2, .ref a3, .int (nI (mem.length + 1)), .int (nI bt)])))) a a1 a2 a3 (q_u1 g mem.length (some n)) (4, nm, wr, mem ++ [q_tB B (q_tok l t)], (mem ++ [q_tB B (q_tok l t)]).length, bt) := by
            have hcn : ∀ x nm', q_CN b n D x nm' → q_CN b (n + 1 + 1) (q_up (q_up D2 a3 (.inl (6, 32, .inr (.inr (.inr (.inr (q_u1 g mem.length (some n)))))))) a (.inr (.inl (5, [.int (nI 4), .ref a1, .ref a2, .ref a3, .int (nI (mem.length + 1)), .int (nI bt)])))) x nm' := by
              intro x nm' hx
              have hx1 : q_CN b (n + 1 + 1) D2 x nm' := q_CN_mo hx (by omega) (fun y _ hy => dD y hy)
              exact q_CN_up (q_CN_up hx1 e4'.2 rfl) e9.2 rfl
            refine ⟨k1, by omega, ?_, hcn _ _ k4, hcn _ _ k5, k6, by omega, ?_, fun i nm' hi => ?_⟩
            · rw [q_up_s, hlen]
            · rw [q_up_n _ _ (Ne.symm n13), q_up_s]
              rfl
            · simp only [q_kM] at hi
              by_cases hil : i < mem.length
              · rw [List.getElem?_append_left hil] at hi
                obtain ⟨a', y1, y2⟩ := k9 i nm' hi
                exact ⟨a', by rw [q_u1_n _ _ (by omega), y1], hcn _ _ y2⟩
              · have hie : i = mem.length := by
                  have := (List.getElem?_eq_some_iff.mp hi).1
                  rw [hlen] at this
                  omega
                subst hie
                rw [List.getElem?_append_right (Nat.le_refl _), Nat.sub_self] at hi
                simp only [List.getElem?_cons_zero, Option.some.injEq] at hi
                subst hi
                exact ⟨n, q_u1_s _ _ _, q_CN_up (q_CN_up d2 e4'.2 rfl) e9.2 rfl⟩
          obtain ⟨D', n', m', r1, r2, r3, r4, r5, r6⟩ := ih fu (t + 1) (q_u2 I 14 1 (nI (t + 1))) _ (n + 1 + 1) (m + 1 + ((q_tok l t).2.2.1 - (q_tok l t).2.1)) a a1 a2 a3 _ nm wr (mem ++ [q_tB B (q_tok l t)]) bt (q_TC_I h (by rw [q_u2_n _ _ _ (by decide)])) (by rw [q_u2_s, q_u1_s]) (by omega) (by omega) (by rw [hlen]; omega) (by rw [hlen]; omega) (by omega) (by omega) hck
          rw [hlen] at r3 r5
          refine ⟨D', n', m', fun x x1 x2 x3 => ?_, by omega, by omega, by omega, by omega, ?_⟩
          · rw [r1 x (by omega) x2 x3, q_up_n _ _ x2, q_up_n _ _ x3, dD x x1]
          · rw [step]
            have hu : ∀ v, q_u2 (q_u2 I 14 1 (nI (t + 1))) 14 1 v = q_u2 I 14 1 v := fun v => q_u2_u2 _ _ _ _ _
            cases hq : q_mset B l f (mem ++ [q_tB B (q_tok l t)]) (t + 1) with
            | inl e =>
              obtain ⟨k, p⟩ := e
              rw [hq] at r6
              simp only [q_ft, hu] at r6 ⊢
              exact r6
            | inr e =>
              obtain ⟨mem', t'⟩ := e
              rw [hq] at r6
              simp only [hu] at r6 ⊢
              obtain ⟨y1, y2, y3⟩ := r6
              exact ⟨y1, by omega, y3⟩
    · rw [if_neg hy]
      have e5 := q_widen (κ := κ) (C := (I, R, X, Y, Z)) (M := M) (O := O) (s := (n, m)) e3 (by omega)
      have e6 : b + 66 < a ∧ q_up D a (.inr (.inl (5, [.int (nI 4), .ref a1, .ref a2, .ref a3, .int (nI mem.length), .int (nI (q_nd mem.length 6 1))]))) a = some (.inr (.inl (5, [.int (nI 4), .ref a1, .ref a2, .ref a3, .int (nI mem.length), .int (nI (q_nd mem.length 6 1))]))) := ⟨k1, q_up_s _ _ _⟩
      have e7 : ((2 : Int32) ≤ nI mem.length) ↔ 2 ≤ mem.length := nI_leI (a := 2) (by decide) (by omega)
      have hfl2 := fun k => q_fail (κ := κ) (b := b) (R := R) (X := X) (Y := Y) (Z := Z) (M := M) (O := O) (D := q_up D a (.inr (.inl (5, [.int (nI 4), .ref a1, .ref a2, .ref a3, .int (nI mem.length), .int (nI (q_nd mem.length 6 1))])))) (s := (n, m)) (k := k) ha
      have step : F_X0_readMembers_2 κ (fu + 1) (some (b + 19)) (some a) (nI mem.length) (q_H b (I, R, X, Y, Z) M O D, n, m) = F_X0_readMembers_124 κ (some (b + 19)) (some a) (q_H b (I, R, X, Y, Z) M O D, n, m) := by
        simp (disch := first | rfl | omega | decide | exact Nat.le_of_ble_eq_true rfl) only [F_X0_readMembers_2, ↓q_br, q_rt, q_rz, q_gd, q_ca, ↓reduceIte, F_X0_readMembers_2B, ↓q_gA_19_0, ↓q_gA_19_1, ↓q_gI_14_1, ↓q_gI_2_6, ↓q_is_14, ↓q_pI_14_1, ↓q_gI_2_6, ↓q_is_14, h.1, nI_ltI, c1, c2, q_b_0, hy, decide_false]
      rw [step]
      refine ⟨q_up D a (.inr (.inl (5, [.int (nI 4), .ref a1, .ref a2, .ref a3, .int (nI mem.length), .int (nI (q_nd mem.length 6 1))]))), n, m, fun x _ x2 _ => q_up_n _ _ x2, Nat.le_refl _, by omega, Nat.le_refl _, by omega, ?_⟩
      by_cases h2 : mem.length < 2
      · rw [if_pos h2]
        have h2' : ¬ 2 ≤ mem.length := by omega
        refine ⟨?_, by decide, by decide⟩
        rw [hI]
        simp (disch := first | rfl | omega | decide | exact Nat.le_of_ble_eq_true rfl) only [↓q_br, q_rt, q_rz, q_gd, q_ca, ↓reduceIte, F_X0_readMembers_124, F_X0_readMembers_147, F_X0_readMembers_152, ↓q_gA_19_0, ↓q_is_14, qd_S e3, e5, qd_I e6 (k := 4) (v := nI mem.length) rfl, e7, h2', ↓q_is_14, hfl2, true_or]
        rfl
      · rw [if_neg h2]
        have h2' : 2 ≤ mem.length := by omega
        refine ⟨?_, Nat.le_refl _, ht, hm32, h2', g, ?_⟩
        · rw [hI]
          simp (disch := first | rfl | omega | decide | exact Nat.le_of_ble_eq_true rfl) only [↓q_br, q_rt, q_rz, q_gd, q_ca, ↓reduceIte, F_X0_readMembers_124, F_X0_readMembers_147, F_X0_readMembers_152, ↓q_gA_19_0, ↓q_is_14, qd_S e3, e5, qd_I e6 (k := 4) (v := nI mem.length) rfl, e7, h2', or_true]
        · refine ⟨k1, k2, q_up_s _ _ _, q_CN_up k4 k3 rfl, q_CN_up k5 k3 rfl, k6, k7, ?_, fun i nm' hi => ?_⟩
          · rw [q_up_n _ _ (Ne.symm n13)]
            exact k8
          · obtain ⟨a', y1, y2⟩ := k9 i nm' hi
            exact ⟨a', y1, q_CN_up y2 k3 rfl⟩
end QKC
