/-! ===== rows: fields and arrays ===== -/
theorem q_P1 {D : va_G} {cl : List vw_C} {q : Nat × va_E} {H : Heap} (h : va_at D cl q H) : va_P D cl [q] H := fun k z hz => by
  cases k with
  | zero => cases hz; exact h
  | succ k => simp at hz
theorem q_at.kept {E : q_Ev} {a : Nat} {e : q_Cel} {H H1 : Heap} (h : q_at E a e H) (hq : H1[a]? = H[a]?) : q_at E a e H1 := by
  rcases e with ⟨t, A⟩ | ⟨ci, fs⟩ | ⟨k, i⟩
  · exact ⟨h.1, hq.trans h.2⟩
  · obtain ⟨h0, r, h1, h2, h3⟩ := h
    exact ⟨h0, r, h1, h2, h3.kept hq⟩
  · exact h
theorem q_Ho.set {E : q_Ev} {M : q_Mem} {H H1 : Heap} {a : Nat} {e : q_Cel} (h : q_Ho E M H) (he : q_at E a e H1) (ho : ∀ q : Nat, q ≠ a → H1[q]? = H[q]?) : q_Ho E (q_up M a e) H1 := fun b x hb => by
  by_cases hba : b = a
  · subst hba
    rw [q_up_s] at hb
    cases hb
    exact he
  · rw [q_up_n _ _ hba] at hb
    exact (h b x hb).kept (ho b hba)
theorem q_fs_e {r : Option Nat} {ci : Nat} {M : q_Mem} {p : Nat × List Value} (h : q_fs r ci M = some p) : r = some p.1 ∧ M p.1 = some (.inr (.inl (ci, p.2))) := by
  unfold q_fs at h
  split at h
  · rename_i a
    split at h
    · rename_i c fs hM
      by_cases hc : c = ci
      · rw [if_pos hc] at h
        cases h
        exact ⟨rfl, by rw [hM, hc]⟩
      · rw [if_neg hc] at h; cases h
    · cases h
  · cases h
theorem q_ar_e {r : Option Nat} {M : q_Mem} {p : Nat × Nat × vp_A} (h : q_ar r M = some p) : r = some p.1 ∧ M p.1 = some (.inl p.2) := by
  unfold q_ar at h
  split at h
  · rename_i a
    split at h
    · rename_i t A hM
      cases h
      exact ⟨rfl, hM⟩
    · cases h
  · cases h
/-- where an entry of a class's file leads: the class's number, the slot, the field's type, whether it is final -/
def q_FL (own : String) (ix ci k : Nat) (ty : FieldType) (fin : Bool) : Prop := ∃ (Cn ref : String) (T : u_T) (N : Nat) (ty0 : Nat → FieldType), vwCl[ci]? = some (Cn, T, N) ∧ k < N ∧ (∀ w ∈ u_ws Cn T N, w ∈ q_Wt) ∧ Cond.fieldLink own ix ref (T k).2.1 (T k).2.2.1 ∈ q_Wt ∧ (ref = (T k).1 ∨ Cond.sameField ref (T k).1 (T k).2.1 (T k).2.2.1 ∈ q_Wt) ∧ (T k).2.2.2 = fin ∧ ty0 k = ty ∧ (∀ k, k < N → parseFieldDescriptor (T k).2.2.1 = some (ty0 k)) ∧ (∀ a, a < N → ∀ b, b < N → a ≠ b → (T a).2.1 ≠ (T b).2.1)
theorem q_ref {s : State} {args : Array Value} {ref C n d : String} (hts : ∀ w ∈ q_Wt, w.before args s = true) (h : ref = C ∨ Cond.sameField ref C n d ∈ q_Wt) : ∀ x, s.fieldFound? C n d = some x → s.fieldFound? ref n d = some x := by
  intro x hx
  rcases h with rfl | h
  · exact hx
  · have h1 := hts _ h
    cases hr : s.fieldFound? ref n d with
    | none => simp [Cond.before, Cond.holds, Cond.value, hr] at h1
    | some y =>
      obtain ⟨c, k, i, f⟩ := y
      exact (Cond.sameField_spec hr h1).symm.trans hx
section QRB
variable {E : q_Ev} {Γ : q_Gm} {Q : State → Prop} {nL : Nat} {σ : q_St} {pc : Nat} {l : List (Nat × q_TV)} {st : List q_TV} {cc : ByteArray} {own : String}
variable {β : Type} {w : (β ⊕ q_Exn) × q_St}
theorem q_getV (C : q_C E Γ cc own nL) {ix ci k : Nat} {ty : FieldType} {fin : Bool} (d : decode cc pc = .ok (.getfield ix, 3)) (hF : q_FL own ix ci k ty fin) {r : Option Nat} {a : Nat} {fs : List Value} {v : q_TV} (hr : q_fs r ci σ.1 = some (a, fs)) (hv : fs[k]? = some (q_v v)) (n : q_W E Γ Q nL σ (pc + 3) l (v :: st)) : q_W E Γ Q nL σ pc l (q_R r :: st) := by
  intro h1 h2 H locs ls hz hH hS hl
  obtain ⟨rfl, hM⟩ := q_fs_e hr
  obtain ⟨Cn, ref, T, N, ty0, g1, g2, g3, g4, g5, -, -, -, -⟩ := hF
  obtain ⟨-, r0, k1, k2, k3⟩ := hH a _ hM
  exact va_get (D := q_eD E) (ci := ci) (v := q_v v) (C := Cn) (T := T) (N := N) (ref := ref) C.1 C.2.1 C.2.2.2.2.1 g3 C.2.2.2.1 C.2.2.2.2.2.1 (q_P1 (q := (a, .inr (ci, fs))) ⟨r0, k1, k3⟩) 0 rfl g1 k g2 (C.2.2.2.2.1 _ g4) (q_ref C.2.2.2.2.1 g5) hv d (n h1 h2 H locs ls hz hH hS hl)
theorem q_getI {kk : Int32 → q_X β} (C : q_C E Γ cc own nL) {ix ci k : Nat} {ty : FieldType} {fin : Bool} (d : decode cc pc = .ok (.getfield ix, 3)) (hF : q_FL own ix ci k ty fin) {r : Option Nat} (h : q_rd (q_gI r ci k) kk σ = some w) (n : ∀ x, kk x σ = some w → q_W E Γ Q nL σ (pc + 3) l (q_I x :: st)) : q_W E Γ Q nL σ pc l (q_R r :: st) := by
  obtain ⟨x, hx, h⟩ := q_rd_e h
  simp only [q_gI, Option.bind_eq_some_iff] at hx
  obtain ⟨⟨a, fs⟩, e1, v, e2, e3⟩ := hx
  cases v <;> simp [q_vI] at e3
  subst e3
  exact q_getV (v := q_I _) C d hF e1 e2 (n _ h)
theorem q_getL {kk : Int64 → q_X β} (C : q_C E Γ cc own nL) {ix ci k : Nat} {ty : FieldType} {fin : Bool} (d : decode cc pc = .ok (.getfield ix, 3)) (hF : q_FL own ix ci k ty fin) {r : Option Nat} (h : q_rd (q_gL r ci k) kk σ = some w) (n : ∀ x, kk x σ = some w → q_W E Γ Q nL σ (pc + 3) l (q_L x :: st)) : q_W E Γ Q nL σ pc l (q_R r :: st) := by
  obtain ⟨x, hx, h⟩ := q_rd_e h
  simp only [q_gL, Option.bind_eq_some_iff] at hx
  obtain ⟨⟨a, fs⟩, e1, v, e2, e3⟩ := hx
  cases v <;> simp [q_vL] at e3
  subst e3
  exact q_getV (v := q_L _) C d hF e1 e2 (n _ h)
theorem q_getA {kk : Option Nat → q_X β} (C : q_C E Γ cc own nL) {ix ci k : Nat} {ty : FieldType} {fin : Bool} (d : decode cc pc = .ok (.getfield ix, 3)) (hF : q_FL own ix ci k ty fin) {r : Option Nat} (h : q_rd (q_gA r ci k) kk σ = some w) (n : ∀ x, kk x σ = some w → q_W E Γ Q nL σ (pc + 3) l (q_R x :: st)) : q_W E Γ Q nL σ pc l (q_R r :: st) := by
  obtain ⟨x, hx, h⟩ := q_rd_e h
  simp only [q_gA, Option.bind_eq_some_iff] at hx
  obtain ⟨⟨a, fs⟩, e1, v, e2, e3⟩ := hx
  cases v <;> simp [q_vA] at e3
  · subst e3
    exact q_getV (v := q_R none) C d hF e1 e2 (n _ h)
  · subst e3
    exact q_getV (v := q_R (some _)) C d hF e1 e2 (n _ h)
theorem q_putV {k9 : q_X β} (C : q_C E Γ cc own nL) {ix ci k : Nat} {ty : FieldType} {fin : Bool} (d : decode cc pc = .ok (.putfield ix, 3)) (hF : q_FL own ix ci k ty fin) (hfin : fin = false ∨ ((q_gh Γ).name = "<init>" ∧ ∃ (Cn : String) (T : u_T) (N : Nat), vwCl[ci]? = some (Cn, T, N) ∧ (T k).1 = own)) {r : Option Nat} {v : q_TV} (hn : narrow ty (q_v v) = q_v v) (hfit : fits ty (q_v v) = true) (h : q_wr (q_pF r ci k (q_v v)) k9 σ = some w)
    (n : ∀ M, k9 (M, σ.2) = some w → q_W E Γ Q nL (M, σ.2) (pc + 3) l st) : q_W E Γ Q nL σ pc l (v :: q_R r :: st) := by
  obtain ⟨M, hx, h⟩ := q_wr_e h
  simp only [q_pF, Option.bind_eq_some_iff] at hx
  obtain ⟨⟨a, fs⟩, e1, e2⟩ := hx
  obtain ⟨rfl, hM⟩ := q_fs_e e1
  by_cases hk : k < fs.length
  · rw [if_pos hk] at e2
    cases e2
    intro h1 h2 H locs ls hz hH hS hl
    obtain ⟨Cn, ref, T, N, ty0, g1, g2, g3, g4, g5, g6, g7, g8, g9⟩ := hF
    obtain ⟨hB, r0, k1, k2, cell, q1, q2, q3, q4⟩ := hH a _ hM
    have hr0 : r0 = (Cn, T, N) := Option.some.inj (k1.symm.trans g1)
    subst hr0
    have hts := C.2.2.2.2.1
    have hown := C.2.2.2.1
    have hK := C.2.2.2.2.2.1
    have hap := va_apart (own := own) hts g3 ty0 g8 g9 hK g1
    obtain ⟨hS9, hfc, kC, hkC, hkind⟩ := hK.1 ci _ g1
    obtain ⟨cf, kf, fi, f, hi, hsl⟩ := hS9 k g2
    have hst := (u_facts hfc hkC (u_lays hts g3 g2) hi).1
    have hd : parseFieldDescriptor (T k).2.2.1 = some ty := by rw [g8 k g2, g7]
    have hlay := hts _ (g3 _ (u_in_lay g2))
    have fin1 : ∀ (H1 : Heap) (e1 : H1[a]? = some (cell.setSlot f.slot (q_v v))) (e3 : ∀ q : Nat, q ≠ a → H1[q]? = H[q]?), q_Ho E (q_up σ.1 a (.inr (.inl (ci, fs.set k (q_v v))))) H1 := by
      intro H1 e1 e3
      rw [hsl] at e1
      exact hH.set ⟨hB, (Cn, T, N), g1, by rw [List.length_set]; exact k2, t_OB.to (V := updV (vp_V fs) k (q_v v)) ⟨_, e1, q2, q3, t_set q4 hap g2 (q_v v)⟩ (fun j _ => vp_updV_set hk (q_v v) j)⟩ e3
    unfold u_lay at hlay
    cases fin with
    | false =>
      rw [if_neg (by rw [g6]; decide)] at hlay
      have h6 := u_store hfc hkC hkind hlay hi hd hn hfit
      refine W.putK C.1 C.2.1 (f := f) ⟨hown, hts _ g4, ⟨_, _, _, q_ref hts g5 _ hi⟩, hst⟩ (by rw [q2]; exact h6) q1 q3 (by rw [hsl]; exact k2_hasslot (q4 k g2)) rfl rfl d fun H' e1 e2 e3 => ?_
      exact n _ h h1 h2 H' _ ls (e2.trans hz) (fin1 H' e1 e3) (hS.put e2 e3 hB) hl
    | true =>
      rcases hfin with hfin | ⟨hini, Cn2, T2, N2, hc2, hdecl⟩
      · cases hfin
      · have ec := Option.some.inj (hc2.symm.trans g1)
        cases ec
        rw [if_pos g6] at hlay
        have hcf : (q_gm Γ).cls = cf := by
          obtain ⟨_, _, c', _, _, _, -, -, hf', -, -, -, hown2, -⟩ := Cond.laysFinal_spec hlay
          have e1 : c' = cf := by have := hi.symm.trans hf'; simp at this; exact this.1.symm
          rw [hdecl] at hown2
          rw [← e1]; exact Option.some.inj (hown.symm.trans hown2)
        have h6 := u_fits hfc hkC hkind (Or.inr hlay) hi hd hn hfit
        refine W.putFinK C.1 C.2.1 hown (hts _ g4) (q_ref hts g5 _ hi) hst hcf hini (by rw [q2]; exact h6) q1 q3 (by rw [hsl]; exact k2_hasslot (q4 k g2)) rfl rfl d fun H' e1 e2 e3 => ?_
        exact n _ h h1 h2 H' _ ls (e2.trans hz) (fin1 H' e1 e3) (hS.put e2 e3 hB) hl
  · rw [if_neg hk] at e2; cases e2
end QRB
