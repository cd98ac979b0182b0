def q_I0 : Nat → Nat → Int32 := fun j k => if (j = 14 ∧ k = 3) ∨ (j = 15 ∧ k = 6) then -1 else 0
def q_R0 (κ : Nat → Nat) : Nat → Nat → Option Nat := fun j _ => if j = 22 ∨ j = 23 then some (κ 99) else none
def q_P0 : Nat → Int32 := fun k => if k = 6 ∨ k = 8 then -1 else 0
def q_C0 (κ : Nat → Nat) : q_CT := (q_I0, q_R0 κ, fun _ _ => 0, fun _ _ => 0, fun _ _ => none)
def q_M0 : q_MT := (q_P0, fun _ _ => 0, fun _ _ => 0)
def q_O0 : Nat → Int64 := fun _ => 0
section QST
variable {κ : Nat → Nat} {b sb L : Nat} {xs : Nat → Int32} {D : q_Mem} {β : Type}
set_option maxRecDepth 10000 in
theorem q_cl_ic : (List.range 25).map (fun i => q_ic b (q_C0 κ) q_M0 q_O0 (i + 1)) = (q_cl0 κ b).map some := rfl
set_option maxRecDepth 10000 in
theorem q_fl26 {r : Nat → Option Nat} : q_fl b q_P0 r [29, 30, 31, 0, 0, 0, 0, 0, 0, 32, 33, 34, 35, 0, 0, 0, 36, 37, 38, 0, 0, 0, 0, 0, 39, 40, 41, 42, 43, 44, 45, 46, 47, 48, 49, 50, 51, 52, 53, 54, 55, 56, 0, 0, 0, 57, 58, 59, 60, 61, 62, 63, 0, 64, 65, 66, 67] = ((q_md0 (b + 25)).head?.bind fun c => match c with | .inr (.inl p) => some p.2 | _ => none).getD [] := by
  unfold q_fl q_md0
  simp only [List.mapIdx_cons, List.mapIdx_nil, Nat.reduceAdd, Nat.reduceEqDiff, Nat.reduceSub, ↓reduceIte, if_true, if_false]
  rfl
set_option maxRecDepth 10000 in
theorem q_md_tl : (List.range 39).map (fun i => q_ic b (q_C0 κ) q_M0 q_O0 (i + 27)) = (q_md0 (b + 25)).tail.map some := rfl
theorem q_ic_at {N o : Nat} {cs : List q_Cel} (h : (List.range N).map (fun i => q_ic b (q_C0 κ) q_M0 q_O0 (i + o)) = cs.map some) {i : Nat} (hi : i < N) : q_ic b (q_C0 κ) q_M0 q_O0 (i + o) = cs[i]? := by
  have h1 := congrArg (fun l => l[i]?) h
  simp only [List.getElem?_map, List.getElem?_range hi, Option.map_some] at h1
  cases hc : cs[i]? with
  | none => rw [hc] at h1; cases h1
  | some c =>
    rw [hc] at h1
    exact Option.some.inj h1
theorem q_md_0 : q_ic b (q_C0 κ) q_M0 q_O0 26 = (q_md0 (b + 25))[0]? := by
  rw [q_ic_o (ci := 16) (l := [29, 30, 31, 0, 0, 0, 0, 0, 0, 32, 33, 34, 35, 0, 0, 0, 36, 37, 38, 0, 0, 0, 0, 0, 39, 40, 41, 42, 43, 44, 45, 46, 47, 48, 49, 50, 51, 52, 53, 54, 55, 56, 0, 0, 0, 57, 58, 59, 60, 61, 62, 63, 0, 64, 65, 66, 67]) rfl]
  show some (Sum.inr (Sum.inl (16, q_fl b q_P0 _ [29, 30, 31, 0, 0, 0, 0, 0, 0, 32, 33, 34, 35, 0, 0, 0, 36, 37, 38, 0, 0, 0, 0, 0, 39, 40, 41, 42, 43, 44, 45, 46, 47, 48, 49, 50, 51, 52, 53, 54, 55, 56, 0, 0, 0, 57, 58, 59, 60, 61, 62, 63, 0, 64, 65, 66, 67]))) = _
  rw [q_fl26]
  rfl
theorem q_md_at {i : Nat} (hi : i < 40) : q_ic b (q_C0 κ) q_M0 q_O0 (i + 26) = (q_md0 (b + 25))[i]? := by
  cases i with
  | zero => exact q_md_0
  | succ i =>
    have h := q_ic_at (q_md_tl (κ := κ) (b := b)) (i := i) (by omega)
    rw [List.getElem?_tail] at h
    rw [← h, show i + 1 + 26 = i + 27 by omega]
theorem q_H0 : q_up (q_WL (b + 25) (q_md0 (b + 25)) (q_WL b (q_cl0 κ b) D)) (b + 66) (q_nL (1 : Int32)) = q_H b (q_C0 κ) q_M0 q_O0 D := by
  have l1 : (q_md0 (b + 25)).length = 40 := rfl
  have l2 : (q_cl0 κ b).length = 25 := rfl
  funext a
  by_cases ha : a = b + 66
  · subst ha
    rw [q_up_s, q_H_s (by decide) (by decide)]
    rfl
  · rw [q_up_n _ _ ha]
    by_cases h1 : b + 25 < a ∧ a ≤ b + 65
    · obtain ⟨i, hi⟩ : ∃ i, a = b + 25 + (i + 1) := ⟨a - (b + 26), by omega⟩
      rw [hi, q_WL_s (by omega), show b + 25 + (i + 1) = b + (i + 26) by omega, q_H_s (by omega) (by omega), q_md_at (by omega)]
    · rw [q_WL_d (by omega)]
      by_cases h2 : b < a ∧ a ≤ b + 25
      · obtain ⟨i, hi⟩ : ∃ i, a = b + (i + 1) := ⟨a - (b + 1), by omega⟩
        rw [hi, q_WL_s (by omega), q_H_s (by omega) (by omega), q_ic_at q_cl_ic (by omega)]
      · rw [q_WL_d (by omega), q_H_d (by omega)]
theorem q_mk_0 {e : q_Cel} {n m : Nat} {f : Nat → q_X β} : q_mk e n f (D, b + 1, m) = f (b + 1) (q_WL b [e] D, b + 2, m + n) := by
  have h : q_up D (b + 1) e = q_WL b [e] D := by
    have h1 := q_WL_up (b := b) (D := D) (cs := []) (e := e)
    have h2 : q_WL b [] D = D := by
      funext a
      exact q_WL_d (by simp only [List.length_nil]; omega)
    rw [h2] at h1
    exact h1
  unfold q_mk
  rw [← h]
theorem q_mk_1 {e : q_Cel} {n m : Nat} {f : Nat → q_X β} : q_mk e n f (q_WL b (q_cl0 κ b) D, b + 26, m) = f (b + 26) (q_WL (b + 25) [e] (q_WL b (q_cl0 κ b) D), b + 27, m + n) := q_mk_0 (b := b + 25)
theorem q_mk_2 {e : q_Cel} {n m : Nat} {f : Nat → q_X β} {D : q_Mem} : q_mk e n f (D, b + 66, m) = f (b + 66) (q_up D (b + 66) e, b + 67, m + n) := rfl
theorem q_ca_ok {α : Type} {f : q_X α} {k : α → q_X β} {σ τ : q_St} {a : α} (h : f σ = some (.inl a, τ)) : q_ca f k σ = k a τ := by
  unfold q_ca
  simp only [h]
theorem q_law0 {l0 : Option Nat} {m : Nat} : F_L_law κ sb L xs l0 (D, b + 1, m) = F_L_law_23 κ sb L xs q_fu l0 (some (b + 1)) (some (b + 26)) (some (b + 66)) (0 : Int32) (q_H b (q_C0 κ) q_M0 q_O0 D, b + 67, m + 38886 + 194273 + 1) := by
  unfold F_L_law
  refine q_mk_0.trans ?_
  refine (q_gd_W (Option.some_ne_none _)).trans ?_
  refine (q_ca_ok q_init11).trans ?_
  refine q_mk_1.trans ?_
  refine (q_gd_W (Option.some_ne_none _)).trans ?_
  refine (q_ca_ok (q_init13 (b := b + 25))).trans ?_
  refine (q_gd_W (of_decide_eq_true rfl)).trans ?_
  refine q_mk_2.trans ?_
  rw [q_H0]
  rfl
theorem q_VI0 (hK : q_Kp κ b D) : q_VI κ b (q_C0 κ) q_M0 D (b + 67) 0 0 := by
  have z : q_lc (fun _ => (0 : Int32)) 4096 = 0 := q_lc_0 4096 (fun _ _ => rfl)
  refine ⟨hK, by omega, ⟨0, by decide, rfl, rfl, fun i hi => by omega⟩, rfl, rfl, rfl, rfl, ⟨0, [], [], ⟨Or.inl ⟨rfl, rfl, rfl⟩, rfl, rfl, ⟨rfl, by simp, fun k K hk => by simp at hk⟩, fun i J hi => by simp at hi, rfl, by simp, rfl, ⟨[], 0, ⟨rfl, rfl, by simp, by simp, by simp, fun w nm hw => by simp at hw⟩, ⟨rfl, by simp, fun k K hk => by simp at hk⟩, fun i J hi => by simp at hi⟩, fun J hJ => by simp at hJ⟩, by rw [z]; rfl, by rw [z]; rfl, fun i hi => ⟨rfl, Or.inl rfl, fun h9 => absurd (show (0 : Int32) = 1 from h9) (by decide)⟩⟩, ⟨rfl, 0, by decide, rfl, rfl, fun i hi => by omega⟩, ⟨0, rfl, Nat.le_refl _, by decide, Or.inl ⟨rfl, rfl⟩⟩, ⟨0, rfl, Nat.le_refl _, by decide, Or.inl ⟨rfl, rfl⟩⟩, fun e he h9 _ => ?_⟩
  have h10 : κ 99 = e := Option.some.inj h9
  have := hK.2.2
  omega
theorem q_law_pure (hK : q_Kp κ b D) (hL : L ≤ 384) : ∃ σ : q_St, F_L_law κ sb L xs (some sb) (D, b + 1, 0) = some (.inl 1, σ) ∧ b + 1 ≤ σ.2.1 ∧ σ.2.1 - (b + 1) ≤ 600128 ∧ σ.2.2 ≤ 7301098 := by
  obtain ⟨σ, f1, f2, f3, f4, f5⟩ := q_lawL (κ := κ) (b := b) (sb := sb) (xs := xs) hL (L / 6) q_fu 0 (q_C0 κ) q_M0 q_O0 D (b + 67) (0 + 38886 + 194273 + 1) 0 0 (by omega) (by unfold q_fu; omega) (q_VI0 hK)
  exact ⟨σ, q_law0.trans f1, by omega, by omega, by omega⟩
end QST
