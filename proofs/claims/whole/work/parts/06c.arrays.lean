/-! ===== rows: arrays, new cells ===== -/
theorem q_tyE {E : q_Ev} {t : Nat} (h : t < 8) : ∃ ty, (q_tys E)[t]? = some (q_eT E t, ty) := by
  match t, h with
  | 0, _ => exact ⟨_, rfl⟩
  | 1, _ => exact ⟨_, rfl⟩
  | 2, _ => exact ⟨_, rfl⟩
  | 3, _ => exact ⟨_, rfl⟩
  | 4, _ => exact ⟨_, rfl⟩
  | 5, _ => exact ⟨_, rfl⟩
  | 6, _ => exact ⟨_, rfl⟩
  | 7, _ => exact ⟨_, rfl⟩
section QRC
variable {E : q_Ev} {Γ : q_Gm} {Q : State → Prop} {nL : Nat} {σ : q_St} {pc : Nat} {l : List (Nat × q_TV)} {st : List q_TV} {cc : ByteArray} {own : String}
variable {β : Type} {w : (β ⊕ q_Exn) × q_St}
theorem q_ldI {kk : Int32 → q_X β} (C : q_C E Γ cc own nL) {t : Nat} {r : Option Nat} {i : Int32} {ins : Instr} (d : decode cc pc = .ok (ins, 1)) (ht : (t = 0 ∧ ins = .baload) ∨ (t = 1 ∧ ins = .iaload) ∨ (t = 3 ∧ ins = .baload)) (h : q_rd (q_lI t r i) kk σ = some w) (n : ∀ x, kk x σ = some w → q_W E Γ Q nL σ (pc + 1) l (q_I x :: st)) : q_W E Γ Q nL σ pc l (q_I i :: q_R r :: st) := by
  obtain ⟨x, hx, h9⟩ := q_rd_e h
  clear h
  simp only [q_lI, Option.bind_eq_some_iff] at hx
  obtain ⟨⟨a, t', m, f | f | f | f | f⟩, e1, e2⟩ := hx
  · obtain ⟨rfl, hM⟩ := q_ar_e e1
    by_cases hc : t' = t ∧ ¬ (i < 0 ∨ m ≤ i.toNatClampNeg)
    · simp only [if_pos hc] at e2
      cases e2
      obtain ⟨rfl, hin⟩ := hc
      intro h1 h2 H locs ls hz hH hS hl
      have hP := q_P1 (D := q_eD E) (cl := vwCl) (q := (a, .inl (q_eT E t', m, .inl f))) (hH a _ hM).2
      have n := n _ h9 h1 h2 H locs ls hz hH hS hl
      rcases ht with ⟨rfl, rfl⟩ | ⟨rfl, rfl⟩ | ⟨rfl, rfl⟩
      · exact va_bald C.1 C.2.1 C.2.2.2.2.2.1 hP 0 0 rfl rfl hin d n
      · exact va_iald C.1 C.2.1 C.2.2.2.2.2.1 hP 0 1 rfl rfl hin d n
      · exact va_zald C.1 C.2.1 C.2.2.2.2.2.1 hP 0 3 rfl rfl hin d n
    · simp only [if_neg hc] at e2; cases e2
  all_goals cases e2
theorem q_ldL {kk : Int64 → q_X β} (C : q_C E Γ cc own nL) {r : Option Nat} {i : Int32} (d : decode cc pc = .ok (.laload, 1)) (h : q_rd (q_lL r i) kk σ = some w) (n : ∀ x, kk x σ = some w → q_W E Γ Q nL σ (pc + 1) l (q_L x :: st)) : q_W E Γ Q nL σ pc l (q_I i :: q_R r :: st) := by
  obtain ⟨x, hx, h9⟩ := q_rd_e h
  clear h
  simp only [q_lL, Option.bind_eq_some_iff] at hx
  obtain ⟨⟨a, t', m, f | f | f | f | f⟩, e1, e2⟩ := hx
  · cases e2
  · obtain ⟨rfl, hM⟩ := q_ar_e e1
    by_cases hc : t' = 2 ∧ ¬ (i < 0 ∨ m ≤ i.toNatClampNeg)
    · simp only [if_pos hc] at e2
      cases e2
      obtain ⟨rfl, hin⟩ := hc
      intro h1 h2 H locs ls hz hH hS hl
      exact va_lald C.1 C.2.1 C.2.2.2.2.2.1 (q_P1 (D := q_eD E) (cl := vwCl) (q := (a, .inl (q_eT E 2, m, .inr (.inl f)))) (hH a _ hM).2) 0 2 rfl rfl hin d (n _ h9 h1 h2 H locs ls hz hH hS hl)
    · simp only [if_neg hc] at e2; cases e2
  all_goals cases e2
theorem q_ldA {kk : Option Nat → q_X β} (C : q_C E Γ cc own nL) {t : Nat} {r : Option Nat} {i : Int32} (d : decode cc pc = .ok (.aaload, 1)) (ht : ∃ Cn, (q_tys E)[t]? = some (q_eT E t, .object Cn)) (h : q_rd (q_lA t r i) kk σ = some w) (n : ∀ x, kk x σ = some w → q_W E Γ Q nL σ (pc + 1) l (q_R x :: st)) : q_W E Γ Q nL σ pc l (q_I i :: q_R r :: st) := by
  obtain ⟨x, hx, h9⟩ := q_rd_e h
  clear h
  simp only [q_lA, Option.bind_eq_some_iff] at hx
  obtain ⟨⟨a, t', m, f | f | f | f | f⟩, e1, e2⟩ := hx
  · cases e2
  · cases e2
  · cases e2
  · cases e2
  · obtain ⟨rfl, hM⟩ := q_ar_e e1
    by_cases hc : t' = t ∧ ¬ (i < 0 ∨ m ≤ i.toNatClampNeg)
    · simp only [if_pos hc] at e2
      cases e2
      obtain ⟨rfl, hin⟩ := hc
      obtain ⟨Cn, ht⟩ := ht
      intro h1 h2 H locs ls hz hH hS hl
      exact va_aldq C.1 C.2.1 C.2.2.2.2.2.1 (q_P1 (D := q_eD E) (cl := vwCl) (q := (a, .inl (q_eT E t', m, .inr (.inr (.inr (.inr f)))))) (hH a _ hM).2) 0 t' rfl ht hin d (n _ h9 h1 h2 H locs ls hz hH hS hl)
    · simp only [if_neg hc] at e2; cases e2
theorem q_alen {kk : Int32 → q_X β} (C : q_C E Γ cc own nL) {r : Option Nat} (d : decode cc pc = .ok (.arraylength, 1)) (h : q_rd (q_len r) kk σ = some w) (n : ∀ x, kk x σ = some w → q_W E Γ Q nL σ (pc + 1) l (q_I x :: st)) : q_W E Γ Q nL σ pc l (q_R r :: st) := by
  obtain ⟨x, hx, h9⟩ := q_rd_e h
  clear h
  unfold q_len at hx
  split at hx
  · rename_i a
    split at hx
    · rename_i t m g hM
      cases hx
      intro h1 h2 H locs ls hz hH hS hl
      obtain ⟨⟨-, ht⟩, hA⟩ := hH a _ hM
      obtain ⟨ty, hty⟩ := q_tyE (E := E) ht
      exact va_alen (v := nI m) C.1 C.2.1 C.2.2.2.2.2.1 (q_P1 (D := q_eD E) (cl := vwCl) (q := (a, .inl (q_eT E t, m, g))) hA) 0 t rfl hty rfl d (n _ h9 h1 h2 H locs ls hz hH hS hl)
    · rename_i i hM
      cases hx
      intro h1 h2 H locs ls hz hH hS hl
      rcases hH a _ hM with ⟨e, -⟩ | ⟨e, -⟩ | ⟨-, ha⟩
      · cases e
      · cases e
      · subst ha
        obtain ⟨cell, e1, e2, e3, e4, e5⟩ := q_Em.kept C.2.2.2.2.2.2.2.1.2.2.2.2.2.2.2.1 hS.2.1
        exact W.alen (n := (0 : Int32)) C.1 C.2.1 e1 e2 (by rw [e4]; rfl) rfl rfl d (n _ h9 h1 h2 H locs ls hz hH hS hl)
    · cases hx
  · cases hx
theorem q_stI {k9 : q_X β} (C : q_C E Γ cc own nL) {r : Option Nat} {i x : Int32} (d : decode cc pc = .ok (.iastore, 1)) (h : q_wr (q_sI 1 r i x) k9 σ = some w) (n : ∀ M, k9 (M, σ.2) = some w → q_W E Γ Q nL (M, σ.2) (pc + 1) l st) : q_W E Γ Q nL σ pc l (q_I x :: q_I i :: q_R r :: st) := by
  obtain ⟨M, hx, h9⟩ := q_wr_e h
  clear h
  simp only [q_sI, Option.bind_eq_some_iff] at hx
  obtain ⟨⟨a, t', m, f | f | f | f | f⟩, e1, e2⟩ := hx
  · obtain ⟨rfl, hM⟩ := q_ar_e e1
    by_cases hc : t' = 1 ∧ ¬ (i < 0 ∨ m ≤ i.toNatClampNeg)
    · simp only [if_pos hc] at e2
      cases e2
      obtain ⟨rfl, hin⟩ := hc
      intro h1 h2 H locs ls hz hH hS hl
      obtain ⟨hB, hcell⟩ := hH a _ hM
      refine W.iast C.1 C.2.1 hcell ((C.2.2.2.2.2.1.2 1 _ rfl).1 m (fun j => .int (f j))) (fun q => by cases q) (by show ¬ (i < 0 ∨ (arrV _ _ _).slots.size ≤ _); rw [arrV_size]; exact hin) rfl rfl d fun H1 e z oq => ?_
      refine n _ h9 h1 h2 H1 _ ls (z.trans hz) (hH.set ⟨hB, ?_⟩ oq) (hS.put z oq hB.1) hl
      rw [e, vp_cell_i, vp_cell_i, arrV_store]
      congr 2
      funext q
      by_cases hq : q = i.toNatClampNeg
      · subst hq; simp [updV, upd]
      · simp [updV, upd, hq]
    · simp only [if_neg hc] at e2; cases e2
  all_goals cases e2
theorem q_stB {k9 : q_X β} (C : q_C E Γ cc own nL) {r : Option Nat} {i x : Int32} (d : decode cc pc = .ok (.bastore, 1)) (h : q_wr (q_sI 0 r i (vp_nar .byte x)) k9 σ = some w) (n : ∀ M, k9 (M, σ.2) = some w → q_W E Γ Q nL (M, σ.2) (pc + 1) l st) : q_W E Γ Q nL σ pc l (q_I x :: q_I i :: q_R r :: st) := by
  obtain ⟨M, hx, h9⟩ := q_wr_e h
  clear h
  simp only [q_sI, Option.bind_eq_some_iff] at hx
  obtain ⟨⟨a, t', m, f | f | f | f | f⟩, e1, e2⟩ := hx
  · obtain ⟨rfl, hM⟩ := q_ar_e e1
    by_cases hc : t' = 0 ∧ ¬ (i < 0 ∨ m ≤ i.toNatClampNeg)
    · simp only [if_pos hc] at e2
      cases e2
      obtain ⟨rfl, hin⟩ := hc
      intro h1 h2 H locs ls hz hH hS hl
      obtain ⟨hB, hcell⟩ := hH a _ hM
      refine W.bast C.1 C.2.1 hcell ((C.2.2.2.2.2.1.2 0 _ rfl).1 m (fun j => .int (f j))) (fun q => by cases q) (by show ¬ (i < 0 ∨ (arrV _ _ _).slots.size ≤ _); rw [arrV_size]; exact hin) rfl rfl d fun H1 e z oq => ?_
      refine n _ h9 h1 h2 H1 _ ls (z.trans hz) (hH.set ⟨hB, ?_⟩ oq) (hS.put z oq hB.1) hl
      rw [e, vp_cell_i, vp_cell_i, arrV_store]
      congr 2
      funext q
      by_cases hq : q = i.toNatClampNeg
      · subst hq; simp [updV, upd]; rfl
      · simp [updV, upd, hq]
    · simp only [if_neg hc] at e2; cases e2
  all_goals cases e2
theorem q_stZ {k9 : q_X β} (C : q_C E Γ cc own nL) {r : Option Nat} {i x : Int32} (d : decode cc pc = .ok (.bastore, 1)) (h : q_wr (q_sI 3 r i (vp_nar .boolean x)) k9 σ = some w) (n : ∀ M, k9 (M, σ.2) = some w → q_W E Γ Q nL (M, σ.2) (pc + 1) l st) : q_W E Γ Q nL σ pc l (q_I x :: q_I i :: q_R r :: st) := by
  obtain ⟨M, hx, h9⟩ := q_wr_e h
  clear h
  simp only [q_sI, Option.bind_eq_some_iff] at hx
  obtain ⟨⟨a, t', m, f | f | f | f | f⟩, e1, e2⟩ := hx
  · obtain ⟨rfl, hM⟩ := q_ar_e e1
    by_cases hc : t' = 3 ∧ ¬ (i < 0 ∨ m ≤ i.toNatClampNeg)
    · simp only [if_pos hc] at e2
      cases e2
      obtain ⟨rfl, hin⟩ := hc
      intro h1 h2 H locs ls hz hH hS hl
      obtain ⟨hB, hcell⟩ := hH a _ hM
      refine W.zast C.1 C.2.1 hcell ((C.2.2.2.2.2.1.2 3 _ rfl).1 m (fun j => .int (f j))) (fun q => by cases q) (by show ¬ (i < 0 ∨ (arrV _ _ _).slots.size ≤ _); rw [arrV_size]; exact hin) rfl rfl d fun H1 e z oq => ?_
      refine n _ h9 h1 h2 H1 _ ls (z.trans hz) (hH.set ⟨hB, ?_⟩ oq) (hS.put z oq hB.1) hl
      rw [e, vp_cell_i, vp_cell_i, arrV_store]
      congr 2
      funext q
      by_cases hq : q = i.toNatClampNeg
      · subst hq; simp [updV, upd]; rfl
      · simp [updV, upd, hq]
    · simp only [if_neg hc] at e2; cases e2
  all_goals cases e2
theorem q_stL {k9 : q_X β} (C : q_C E Γ cc own nL) {r : Option Nat} {i : Int32} {x : Int64} (d : decode cc pc = .ok (.lastore, 1)) (h : q_wr (q_sL r i x) k9 σ = some w) (n : ∀ M, k9 (M, σ.2) = some w → q_W E Γ Q nL (M, σ.2) (pc + 1) l st) : q_W E Γ Q nL σ pc l (q_L x :: q_I i :: q_R r :: st) := by
  obtain ⟨M, hx, h9⟩ := q_wr_e h
  clear h
  simp only [q_sL, Option.bind_eq_some_iff] at hx
  obtain ⟨⟨a, t', m, f | f | f | f | f⟩, e1, e2⟩ := hx
  · cases e2
  · obtain ⟨rfl, hM⟩ := q_ar_e e1
    by_cases hc : t' = 2 ∧ ¬ (i < 0 ∨ m ≤ i.toNatClampNeg)
    · simp only [if_pos hc] at e2
      cases e2
      obtain ⟨rfl, hin⟩ := hc
      intro h1 h2 H locs ls hz hH hS hl
      obtain ⟨hB, hcell⟩ := hH a _ hM
      refine W.last C.1 C.2.1 hcell ((C.2.2.2.2.2.1.2 2 _ rfl).1 m (fun j => .long (f j))) (fun q => by cases q) (by show ¬ (i < 0 ∨ (arrV _ _ _).slots.size ≤ _); rw [arrV_size]; exact hin) rfl rfl d fun H1 e z oq => ?_
      refine n _ h9 h1 h2 H1 _ ls (z.trans hz) (hH.set ⟨hB, ?_⟩ oq) (hS.put z oq hB.1) hl
      rw [e, vp_cell_l, vp_cell_l, arrV_store]
      congr 2
      funext q
      by_cases hq : q = i.toNatClampNeg
      · subst hq; simp [updV, vp_updL]
      · simp [updV, vp_updL, hq]
    · simp only [if_neg hc] at e2; cases e2
  all_goals cases e2
theorem q_Ho.new {M : q_Mem} {H H1 : Heap} {e : q_Cel} (h : q_Ho E M H) (he : q_at E H.size e H1) (ho : ∀ q : Nat, q < H.size → H1[q]? = H[q]?) : q_Ho E (q_up M H.size e) H1 := fun b x hb => by
  by_cases hba : b = H.size
  · subst hba
    rw [q_up_s] at hb
    cases hb
    exact he
  · rw [q_up_n _ _ hba] at hb
    have hx := h b x hb
    rcases x with ⟨t, A⟩ | ⟨ci, fs⟩ | ⟨k, i⟩
    · exact hx.kept (ho b (Array.getElem?_eq_some_iff.mp hx.2).1)
    · obtain ⟨-, r, -, -, cell, hc, -⟩ := id hx
      exact hx.kept (ho b (Array.getElem?_eq_some_iff.mp hc).1)
    · exact hx
theorem q_S.new {A : Nat → Prop} {H0 H H1 : Heap} {locs : List Loc} (h : va_S A H0 H locs) (z : H1.size = H.size + 1) (ho : ∀ q : Nat, q < H.size → H1[q]? = H[q]?) : va_S A H0 H1 locs :=
  ⟨Nat.le_trans h.1 (by omega), fun x h1 h2 => (ho x (Nat.lt_of_lt_of_le h1 h.1)).trans (h.2.1 x h1 h2), h.2.2⟩
/-- what the tables say of a class that is made here -/
def q_NL (own : String) (ix ci N : Nat) (fs : List Value) : Prop := ∃ (Cn : String) (T : u_T) (ty : Nat → FieldType), vwCl[ci]? = some (Cn, T, N) ∧ (∀ w ∈ u_ws Cn T N, w ∈ q_Wt) ∧ (∀ k, k < N → parseFieldDescriptor (T k).2.2.1 = some (ty k)) ∧ Cond.classLink own ix Cn ∈ q_Wt ∧ Cond.instantiable Cn N ∈ q_Wt ∧ Cond.initialized Cn ∈ q_Wt ∧ (∀ j, j < N → defaultValue (ty j) = vp_V fs j) ∧ fs.length = N
theorem q_new {kk : Nat → q_X β} (C : q_C E Γ cc own nL) {ix ci N : Nat} {fs : List Value} (d : decode cc pc = .ok (.new ix, 3)) (hN : q_NL own ix ci N fs) (hk : ∀ a, q_mo (kk a)) (hR : w.2.2.1 - q_gn Γ ≤ (q_gR Γ).cells ∧ w.2.2.2 - q_gl Γ ≤ (q_gR Γ).slots) (h : q_mk (.inr (.inl (ci, fs))) N kk σ = some w)
    (n : ∀ a τ, kk a τ = some w → q_W E Γ Q nL τ (pc + 3) l (q_R (some a) :: st)) : q_W E Γ Q nL σ pc l st := by
  intro h1 h2 H locs ls hz hH hS hl
  obtain ⟨r, τ⟩ := w
  have hm := hk _ _ _ _ h
  have hm1 : σ.2.1 + 1 ≤ τ.2.1 := hm.1
  have hm2 : σ.2.2 + N ≤ τ.2.2 := hm.2
  have hR1 : τ.2.1 - q_gn Γ ≤ (q_gR Γ).cells := hR.1
  have hR2 : τ.2.2 - q_gl Γ ≤ (q_gR Γ).slots := hR.2
  obtain ⟨Cn, T, ty, g1, g2, g3, g4, g5, g6, g7, g8⟩ := hN
  have hts := C.2.2.2.2.1
  have hKn := C.2.2.2.2.2.1.1 ci _ g1
  refine W.newcK C.1 C.2.1 C.2.2.2.1 (hts _ g4) (hts _ g5) (hts _ g6) rfl d (by omega) (by omega) hKn.2.1 rfl fun H1 kC hkC e1 z1 o1 => ?_
  have n := n _ _ h (Nat.le_succ_of_le h1) (Nat.le_trans h2 (Nat.le_add_right _ _)) H1 locs ls (by rw [z1, hz]) (by rw [← hz]; exact hH.new ⟨Nat.le_trans C.2.2.2.2.2.2.2.2.1 hS.1, (Cn, T, N), g1, g8, (u_born ty hts g2 hKn hkC e1 g3).to g7⟩ o1) (q_S.new hS z1 o1) hl
  refine W.cs (cells' := σ.2.1 + 1 - q_gn Γ) (slots' := σ.2.2 + N - q_gl Γ) (by omega) (by omega) ?_
  rw [hz]
  exact n
end QRC
