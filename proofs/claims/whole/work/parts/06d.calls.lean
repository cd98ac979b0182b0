/-! ===== rows: new arrays, casts, ends of methods ===== -/
def q_is (r : Option Nat) (ci : Nat) (M : q_Mem) : Option Unit := (q_fs r ci M).bind fun _ => some ()
theorem q_is_e {r : Option Nat} {ci : Nat} {M : q_Mem} {u : Unit} (h : q_is r ci M = some u) : ∃ a fs, r = some a ∧ M a = some (.inr (.inl (ci, fs))) := by
  simp only [q_is, Option.bind_eq_some_iff] at h
  obtain ⟨⟨a, fs⟩, e1, -⟩ := h
  obtain ⟨h1, h2⟩ := q_fs_e e1
  exact ⟨a, fs, h1, h2⟩
/-- a reference into a row of references: an object of the class ci, or null -/
def q_sT (t ci : Nat) (r : Option Nat) (i : Int32) (x : Option Nat) (M : q_Mem) : Option q_Mem := match x with
  | some b => (q_fs (some b) ci M).bind fun _ => q_sA t r i (some b) M
  | none => q_sA t r i none M
def q_at8 (t : Nat) (a : ArrayType) : Prop := (t = 0 ∧ a = .byte) ∨ (t = 1 ∧ a = .int) ∨ (t = 3 ∧ a = .boolean)
section QRD
variable {E : q_Ev} {Γ : q_Gm} {Q : State → Prop} {nL : Nat} {σ : q_St} {pc : Nat} {l : List (Nat × q_TV)} {st : List q_TV} {cc : ByteArray} {own : String}
variable {β : Type} {w : (β ⊕ q_Exn) × q_St}
theorem q_newP {kk : Nat → q_X β} (C : q_C E Γ cc own nL) {z : Int32} {t : Nat} {at9 : ArrayType} {A : vp_A} (d : decode cc pc = .ok (.newarray at9, 2)) (hw : Cond.arrayClass (newarray.typeOf at9) ∈ q_Wt) (ht : (q_tys E)[t]? = some (q_eT E t, newarray.typeOf at9)) (ht8 : t < 8) (hra : ∀ c, va_RA (q_gs Γ) c (newarray.typeOf at9) → (q_gs Γ).vm.findClass ("[" ++ (newarray.typeOf at9).toString) = some c) (hA1 : A.1 = z.toNatClampNeg) (hA : ∀ c : ClassId, vp_cell c A = arrV c z.toNatClampNeg (fun _ => defaultValue (newarray.typeOf at9))) (hcb : componentBytes (newarray.typeOf at9) ≤ 8)
    (hk : ∀ a, q_mo (kk a)) (hR : w.2.2.1 - q_gn Γ ≤ (q_gR Γ).cells ∧ w.2.2.2 - q_gl Γ ≤ (q_gR Γ).slots) (h : q_gd (¬ z < 0 ∧ z.toNatClampNeg ≤ 65536) (q_mk (.inl (t, A)) z.toNatClampNeg kk) σ = some w)
    (n : ∀ a τ, kk a τ = some w → q_W E Γ Q nL τ (pc + 2) l (q_R (some a) :: st)) : q_W E Γ Q nL σ pc l (q_I z :: st) := by
  intro h1 h2 H locs ls hz hH hS hl
  obtain ⟨⟨g1, g2⟩, h⟩ := q_gd_e h
  obtain ⟨r, τ⟩ := w
  have hm := hk _ _ _ _ h
  have hm1 : σ.2.1 + 1 ≤ τ.2.1 := hm.1
  have hm2 : σ.2.2 + z.toNatClampNeg ≤ τ.2.2 := hm.2
  have hR1 : τ.2.1 - q_gn Γ ≤ (q_gR Γ).cells := hR.1
  have hR2 : τ.2.2 - q_gl Γ ≤ (q_gR Γ).slots := hR.2
  have hbytes : z.toNatClampNeg * componentBytes (newarray.typeOf at9) ≤ 536870912 := Nat.le_trans (Nat.mul_le_mul g2 hcb) (by decide)
  refine va_newaK C.1 C.2.1 (C.2.2.2.2.1 _ hw) rfl d rfl g1 rfl hbytes (by omega) (by omega) rfl fun H1 cA e1 z1 o1 hAr hNm => ?_
  have hcA : cA = q_eT E t := Option.some.inj (hNm.symm.trans (hra _ (C.2.2.2.2.2.1.2 t _ ht).2))
  subst hcA
  have n := n _ _ h (Nat.le_succ_of_le h1) (Nat.le_trans h2 (Nat.le_add_right _ _)) H1 locs ls (by rw [z1, hz]) (by rw [← hz]; exact hH.new ⟨⟨Nat.le_trans C.2.2.2.2.2.2.2.2.1 hS.1, ht8⟩, by rw [hA]; exact e1⟩ o1) (q_S.new hS z1 o1) hl
  refine W.cs (cells' := σ.2.1 + 1 - q_gn Γ) (slots' := σ.2.2 + z.toNatClampNeg - q_gl Γ) (by omega) (by omega) ?_
  rw [hz]
  exact n
theorem q_newA {kk : Nat → q_X β} (C : q_C E Γ cc own nL) {z : Int32} {t ix : Nat} {Cn : String} (d : decode cc pc = .ok (.anewarray ix, 3)) (hw : Cond.classLink own ix Cn ∈ q_Wt) (ho : Cn ∈ q_AO) (ht : (q_tys E)[t]? = some (q_eT E t, .object Cn)) (ht8 : t < 8)
    (hk : ∀ a, q_mo (kk a)) (hR : w.2.2.1 - q_gn Γ ≤ (q_gR Γ).cells ∧ w.2.2.2 - q_gl Γ ≤ (q_gR Γ).slots) (h : q_gd (¬ z < 0 ∧ z.toNatClampNeg ≤ 65536) (q_mk (q_nA t z) z.toNatClampNeg kk) σ = some w)
    (n : ∀ a τ, kk a τ = some w → q_W E Γ Q nL τ (pc + 3) l (q_R (some a) :: st)) : q_W E Γ Q nL σ pc l (q_I z :: st) := by
  intro h1 h2 H locs ls hz hH hS hl
  obtain ⟨⟨g1, g2⟩, h⟩ := q_gd_e h
  obtain ⟨r, τ⟩ := w
  have hm := hk _ _ _ _ h
  have hm1 : σ.2.1 + 1 ≤ τ.2.1 := hm.1
  have hm2 : σ.2.2 + z.toNatClampNeg ≤ τ.2.2 := hm.2
  have hR1 : τ.2.1 - q_gn Γ ≤ (q_gR Γ).cells := hR.1
  have hR2 : τ.2.2 - q_gl Γ ≤ (q_gR Γ).slots := hR.2
  refine W.anew C.1 C.2.1 C.2.2.2.1 (C.2.2.2.2.1 _ hw) (va_AO.use (C.2.2.2.2.2.2.1.2.2.1 _ ho)) rfl d rfl g1 (Nat.le_trans (Nat.mul_le_mul_right 4 g2) (by decide)) (by omega) (by omega) fun cA kA comp f1 f2 f3 f4 => ?_
  generalize hH1 : H.push ({ cls := cA, slots := Array.replicate z.toNatClampNeg .null, vm := .none } : Cell) = H1
  have z1 : H1.size = H.size + 1 := by rw [← hH1, Array.size_push]
  have e1 : H1[H.size]? = some (arrV cA z.toNatClampNeg (fun _ => .null)) := by rw [← hH1, Array.getElem?_push_size, ← arrV_new]
  have o1 : ∀ q : Nat, q < H.size → H1[q]? = H[q]? := fun q hq => by rw [← hH1, Array.getElem?_push, if_neg (Nat.ne_of_lt hq)]
  obtain ⟨kA', comp', -, -, -, f5⟩ := (C.2.2.2.2.2.1.2 t _ ht).2
  have hcA : cA = q_eT E t := Option.some.inj (f1.symm.trans f5)
  subst hcA
  have n := n _ _ h (Nat.le_succ_of_le h1) (Nat.le_trans h2 (Nat.le_add_right _ _)) H1 locs ls (by rw [z1, hz]) (by rw [← hz]; exact hH.new ⟨⟨Nat.le_trans C.2.2.2.2.2.2.2.2.1 hS.1, ht8⟩, by rw [vp_cell_q]; exact e1⟩ o1) (q_S.new hS z1 o1) hl
  refine W.cs (cells' := σ.2.1 + 1 - q_gn Γ) (slots' := σ.2.2 + z.toNatClampNeg - q_gl Γ) (by omega) (by omega) ?_
  rw [hz]
  exact n
theorem q_sA_e {t : Nat} {r : Option Nat} {i : Int32} {x : Option Nat} {M M' : q_Mem} (h : q_sA t r i x M = some M') : ∃ a m f, r = some a ∧ M a = some (.inl (t, m, .inr (.inr (.inr (.inr f))))) ∧ ¬ (i < 0 ∨ m ≤ i.toNatClampNeg) ∧ M' = q_up M a (.inl (t, m, .inr (.inr (.inr (.inr (va_up f i.toNatClampNeg x)))))) := by
  simp only [q_sA, Option.bind_eq_some_iff] at h
  obtain ⟨⟨a, t', m, f | f | f | f | f⟩, e1, e2⟩ := h
  · cases e2
  · cases e2
  · cases e2
  · cases e2
  · obtain ⟨hr, hM⟩ := q_ar_e e1
    by_cases hc : t' = t ∧ ¬ (i < 0 ∨ m ≤ i.toNatClampNeg)
    · simp only [if_pos hc] at e2
      cases e2
      obtain ⟨rfl, hin⟩ := hc
      exact ⟨a, m, f, hr, hM, hin, rfl⟩
    · simp only [if_neg hc] at e2; cases e2
theorem q_stA {k9 : q_X β} (C : q_C E Γ cc own nL) {t ci : Nat} {r : Option Nat} {i : Int32} {x : Option Nat} {r0 : vw_C} {Cn : String} (d : decode cc pc = .ok (.aastore, 1)) (ht : (q_tys E)[t]? = some (q_eT E t, .object Cn)) (hc : vwCl[ci]? = some r0) (hcast : r0.1 = Cn ∨ Cond.castable r0.1 Cn ∈ q_CW) (h : q_wr (q_sT t ci r i x) k9 σ = some w) (n : ∀ M, k9 (M, σ.2) = some w → q_W E Γ Q nL (M, σ.2) (pc + 1) l st) : q_W E Γ Q nL σ pc l (q_R x :: q_I i :: q_R r :: st) := by
  obtain ⟨M, hx, h9⟩ := q_wr_e h
  clear h
  cases x with
  | none =>
    obtain ⟨a, m, f, rfl, hM, hin, rfl⟩ := q_sA_e hx
    intro h1 h2 H locs ls hz hH hS hl
    obtain ⟨hB, hcell⟩ := hH a _ hM
    refine va_WaastN C.1 C.2.1 hcell ((C.2.2.2.2.2.1.2 t _ ht).1 m (fun j => va_rf (f j))) (fun q => by cases q) (by show ¬ (i < 0 ∨ (arrV _ _ _).slots.size ≤ _); rw [arrV_size]; exact hin) rfl rfl d fun H1 e z oq => ?_
    refine n _ h9 h1 h2 H1 _ ls (z.trans hz) (hH.set ⟨hB, ?_⟩ oq) (hS.put z oq hB.1) hl
    rw [e, vp_cell_q, vp_cell_q, arrV_store]
    congr 2
    funext q
    by_cases hq : q = i.toNatClampNeg
    · subst hq; simp [updV, va_up, va_rf]
    · simp [updV, va_up, hq]
  | some b =>
    simp only [q_sT, Option.bind_eq_some_iff] at hx
    obtain ⟨⟨b', fs⟩, e0, hx⟩ := hx
    obtain ⟨eb, hMb⟩ := q_fs_e e0
    cases eb
    obtain ⟨a, m, f, rfl, hM, hin, rfl⟩ := q_sA_e hx
    intro h1 h2 H locs ls hz hH hS hl
    obtain ⟨hB, hcell⟩ := hH a _ hM
    obtain ⟨-, r1, k1, k2, cellV, g1, g2, g3, -⟩ := hH b' _ hMb
    have er : r1 = r0 := Option.some.inj (k1.symm.trans hc)
    subst er
    have hcls := (C.2.2.2.2.2.1.1 ci r1 hc).2
    obtain ⟨kA, comp, j1, j2, j3, -⟩ := (C.2.2.2.2.2.1.2 t _ ht).2
    obtain ⟨kC, hkC, -⟩ := hcls.2
    have hlt : i.toNatClampNeg < m := Nat.not_le.mp fun q => hin (Or.inr q)
    have h0 : ¬ i < 0 := fun q => hin (Or.inl q)
    have hasg : (q_gs Γ).vm.assignable ((q_eD E).1 ci) comp = true ∧ ∃ kk9 : Class, (q_gs Γ).vm.classes[comp]? = some kk9 := by
      rcases hcast with rfl | hcast
      · have hcomp : comp = (q_eD E).1 ci := Option.some.inj (j3.symm.trans hcls.1)
        subst hcomp
        exact ⟨va_assign hcls, kC, hkC⟩
      · obtain ⟨c3, c4, f1, f2, f3⟩ := Cond.castable_spec (va_Nw.use (A := q_ga Γ) rfl (C.2.2.2.2.2.2.1.2.2.2.2.2.2.1 _ hcast))
        cases Option.some.inj (f1.symm.trans hcls.1)
        cases Option.some.inj (f2.symm.trans j3)
        obtain ⟨k9, hk9, -⟩ := Vm.findClass_spec j3
        exact ⟨f3, k9, hk9⟩
    obtain ⟨hasg, kcomp, hkcomp⟩ := hasg
    refine W.aast C.1 C.2.1 hcell (fun q h => by cases h) (fun h => by cases h) j1 j2 rfl hkcomp ⟨h0, by show _ < (arrV _ _ _).slots.size; rw [arrV_size]; exact hlt⟩ g1 (fun q h => by rw [g3] at h; cases h) (by rw [g2]; exact hkC) (by rw [g2]; exact hasg) rfl rfl d fun H1 e z oq => ?_
    refine n _ h9 h1 h2 H1 _ ls (z.trans hz) (hH.set ⟨hB, ?_⟩ oq) (hS.put z oq hB.1) hl
    rw [e, vp_cell_q, vp_cell_q, arrV_store]
    congr 2
    funext q
    by_cases hq : q = i.toNatClampNeg
    · subst hq; simp [updV, va_up, va_rf]
    · simp [updV, va_up, hq]
theorem q_recv (C : q_C E Γ cc own nL) {H : Heap} (hH : q_Ho E σ.1 H) {a ci : Nat} {fs : List Value} (hM : σ.1 a = some (.inr (.inl (ci, fs)))) {r0 : vw_C} (hc : vwCl[ci]? = some r0) : ∃ cell : Cell, H[a]? = some cell ∧ cell.vm.isStatics = false ∧ (q_gs Γ).vm.findClass r0.1 = some cell.cls := by
  obtain ⟨-, r, h1, h2, cell, g1, g2, g3, -⟩ := hH a _ hM
  have er : r = r0 := Option.some.inj (h1.symm.trans hc)
  subst er
  exact ⟨cell, g1, by rw [g3]; rfl, by rw [g2]; exact (C.2.2.2.2.2.1.1 ci r hc).2.1⟩
theorem q_cast {k9 : q_X β} (C : q_C E Γ cc own nL) {ix ci : Nat} {r : Option Nat} {r0 : vw_C} {nm : String} (d : decode cc pc = .ok (.checkcast ix, 3)) (hc : vwCl[ci]? = some r0) (hl0 : Cond.classLink own ix nm ∈ q_Wt) (hcast : Cond.castable r0.1 nm ∈ q_CW) (h : q_rd (q_is r ci) (fun _ => k9) σ = some w) (n : k9 σ = some w → q_W E Γ Q nL σ (pc + 3) l (q_R r :: st)) : q_W E Γ Q nL σ pc l (q_R r :: st) := by
  obtain ⟨x, hx, h9⟩ := q_rd_e h
  clear h
  obtain ⟨a, fs, rfl, hM⟩ := q_is_e hx
  intro h1 h2 H locs ls hz hH hS hl
  exact va_castY C.1 C.2.1 C.2.2.2.1 (C.2.2.2.2.1 _ hl0) (C.2.2.2.2.2.2.1.2.2.2.2.2.2.1 _ hcast) (q_recv C hH hM hc) d (n h9 h1 h2 H locs ls hz hH hS hl)
end QRD
