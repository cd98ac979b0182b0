/-! ===== rows: copies, throws, catches ===== -/
theorem q_nn {z : Int32} (hz : ¬ z < 0) : z.toInt = (z.toNatClampNeg : Int) := by
  have hz0 : (0 : Int) ≤ z.toInt := by simpa using Int32.le_iff_toInt_le.mp (Int32.not_lt.mp hz)
  show z.toInt = ((z.toInt.toNat : Nat) : Int)
  omega
theorem q_CW_ot : ∀ w ∈ q_CW, w.onTables = true := by
  intro w hw
  rcases q_CW_is w hw with ⟨a, b, rfl⟩ | ⟨y, rfl⟩ <;> rfl
section QRJ
variable {E : q_Ev} {Γ : q_Gm} {Q : State → Prop} {nL : Nat} {σ : q_St} {pc : Nat} {l : List (Nat × q_TV)} {stk st As : List q_TV} {cc : ByteArray} {own : String}
variable {α β : Type} {w : (β ⊕ q_Exn) × q_St} {g : α → Option Value} {gB : β → Option Value} {ps : α → List q_TV} {f : q_X α} {k : α → q_X β} {y : MethodName} {ix mL n fr1 lo1 : Nat} {bytes : ByteArray} {rt9 : Option FieldType} {r : Option Nat}
theorem q_cpB {k9 : q_X β} (C : q_C E Γ cc own nL) {r0 r1 : Option Nat} {sp dp z : Int32} (d : decode cc pc = .ok (.invokestatic ix, 3)) (hw : Cond.methodLink own ix arraycopyName ∈ q_Wt ∧ Cond.native arraycopyName ∈ q_Wt ∧ Cond.static arraycopyName ∈ q_Wt ∧ Cond.initialized "java/lang/System" ∈ q_Wt) (hfl : 1 ≤ (q_gR Γ).frames ∧ 40 ≤ (q_gR Γ).locals) (hst : (st.map fun v => if q_2 v then 2 else 1).sum ≤ 8) (h : q_wr (q_cB r0 sp r1 dp z) k9 σ = some w) (n : ∀ M, k9 (M, σ.2) = some w → q_W E Γ Q nL (M, σ.2) (pc + 3) l st) : q_W E Γ Q nL σ pc l (q_I z :: q_I dp :: q_R r1 :: q_I sp :: q_R r0 :: st) := by
  obtain ⟨M, hx, h9⟩ := q_wr_e h
  clear h
  simp only [q_cB, Option.bind_eq_some_iff] at hx
  obtain ⟨⟨a0, t0, n0, f | f | f | f | f⟩, e1, ⟨a, t1, n1, g | g | g | g | g⟩, e2, e3⟩ := hx
  · obtain ⟨rfl, hM0⟩ := q_ar_e e1
    obtain ⟨rfl, hM1⟩ := q_ar_e e2
    dsimp only at e3
    split at e3
    · rename_i hc
      obtain ⟨⟨rfl, rfl⟩, ⟨g1, g2, g3, g4, g5⟩, g6⟩ := hc
      cases e3
      intro h1 h2 H locs ls hz hH hS hl
      have hts := C.2.2.2.2.1
      have hK := C.2.2.2.2.2.1
      obtain ⟨hB0, hc0⟩ := hH a0 _ hM0
      obtain ⟨hB1, hc1⟩ := hH a _ hM1
      have hs := q_wt hst
      intro T hT X
      obtain ⟨-, k0, hk0, cm0, hkk0⟩ := (hK.2 0 _ rfl).1 n0 (fun j => .int (f j))
      obtain ⟨-, k1, hk1, cm1, hkk1⟩ := (hK.2 0 _ rfl).1 n1 (fun j => .int (g j))
      have hnw : nativeFrameWords "java/lang/System" "arraycopy" 5 + 11 + 8 ≤ 40 := by decide
      obtain ⟨vm', X', step⟩ := X.arraycopy C.1 C.2.2.2.1 (hts _ hw.1) (hts _ hw.2.1) (hts _ hw.2.2.1) (hts _ hw.2.2.2) (src := a0) (dst := a) (cs := vp_cell (q_eT E 0) (n0, .inl f)) (cd := vp_cell (q_eT E 0) (n1, .inl g)) (srcPos := sp) (destPos := dp) (n := z) (by rw [hT]; exact hc0) (by rw [hT]; exact hc1)
        (fun _ h => by cases h) (fun _ h => by cases h) (fun h => by cases h) (fun h => by cases h) hk0 hk1 hkk0 hkk1 rfl g1 g2 g3
        (by rw [q_nn g1, q_nn g3]; show ¬ _ > ((arrV _ n0 (fun j => .int (f j))).slots.size : Int); rw [arrV_size]; omega)
        (by rw [q_nn g2, q_nn g3]; show ¬ _ > ((arrV _ n1 (fun j => .int (g j))).slots.size : Int); rw [arrV_size]; omega)
        (fun vm₁ _ i hi => by
          have e : (vp_cell (q_eT E 0) (n0, .inl f)).slots.getD (sp.toNatClampNeg + i) .null = .int (f (sp.toNatClampNeg + i)) := by
            show (arrV _ n0 (fun j => .int (f j))).slots.getD _ _ = _
            rw [Array.getD_eq_getD_getElem?, arrV_read _ _ (by omega)]
            rfl
          refine ⟨?_, ?_⟩
          · rw [e, ← g6 i hi]
            exact pk_fb _
          · rw [e]
            exact trivial)
        (g := F0 (q_gm Γ) pc ls (.int z :: .int dp :: .ref a :: .int sp :: .ref a0 :: st.map q_v)) rfl (by rw [C.2.2.1]; exact hl.1) (rest := st.map q_v) rfl (by rw [C.2.1]; exact d) hfl.1 (by show 2 * 0 + _ + _ ≤ _; have := hfl.2; omega)
      have e1 : copied (vp_cell (q_eT E 0) (n0, .inl f)) (vp_cell (q_eT E 0) (n1, .inl g)) sp dp z = vp_cell (q_eT E 0) (n1, .inl (va_cpy f g sp.toNatClampNeg dp.toNatClampNeg z.toNatClampNeg)) := va_copied (fun z => .int z) (q_eT E 0) (q_eT E 0) f g g4
      rw [e1] at X' step
      have hl2 : a < H.size := (Array.getElem?_eq_some_iff.mp hc1).1
      have hheap : ((T.setVm vm').setCell a (vp_cell (q_eT E 0) (n1, .inl (va_cpy f g sp.toNatClampNeg dp.toNatClampNeg z.toNatClampNeg)))).heap = H.setIfInBounds a (vp_cell (q_eT E 0) (n1, .inl (va_cpy f g sp.toNatClampNeg dp.toNatClampNeg z.toNatClampNeg))) := by rw [← hT]; rfl
      have oq : ∀ q : Nat, q ≠ a → (H.setIfInBounds a (vp_cell (q_eT E 0) (n1, .inl (va_cpy f g sp.toNatClampNeg dp.toNatClampNeg z.toNatClampNeg))))[q]? = H[q]? := fun q hq => by simp [Array.getElem?_setIfInBounds, Ne.symm hq]
      obtain ⟨t, a1, b1⟩ := n _ h9 h1 h2 _ _ ls (by simp; exact hz) (hH.set ⟨hB1, show (H.setIfInBounds a _)[a]? = some _ by simp [Array.getElem?_setIfInBounds, hl2]⟩ oq) ⟨by simp; exact hS.1, fun q g1 g2 => by
          rw [oq q (fun e => g2 (by rw [e]; exact hB1.1))]
          exact hS.2.1 q g1 g2, fun q hq => by
          rcases List.mem_append.mp hq with h | h
          · exact hS.2.2 q h
          · obtain ⟨z, -, hz⟩ := List.mem_map.mp h
            rw [← hz]
            exact hB1.1⟩ hl _ hheap X'
      exact ⟨t, step t a1, b1⟩
    · cases e3
  all_goals cases e3
/-- throw new N("a text") -/
theorem q_throw {names : List String} {ik is ic k9 : Nat} {N tx : String} {w : (β ⊕ q_Exn) × q_St} (C : q_C E Γ cc own nL) (hR : w.2.2.1 - q_gn Γ ≤ (q_gR Γ).cells ∧ w.2.2.2 - q_gl Γ ≤ (q_gR Γ).slots) (hT : q_nT Γ) (hN : Bundle.fit N = true ∧ ∀ n ∈ names, Bundle.fit n = true) (hw : Cond.classLink own ik N ∈ q_Wt ∧ Cond.initialized N ∈ q_Wt) (hs : (own, is, tx, k9) ∈ q_SR) (hat : (∀ w ∈ (vx_atS own ic N names).filter goodWord, w ∈ q_Wt) ∧ ∀ w ∈ (vx_atS own ic N names).filter (fun w => !goodWord w), w ∈ q_CW) (hgood : ∀ w ∈ Cond.classLink own ik N :: Cond.initialized N :: vx_atS own ic N names, vx_ot w = true)
    (d0 : decode cc pc = .ok (.new ik, 3)) (d3 : decode cc (pc + 3) = .ok (.dup, 1)) (d4 : decode cc (pc + 4) = .ok (.ldc is, 2)) (d6 : decode cc (pc + 6) = .ok (.invokespecial ic, 3)) (d9 : decode cc (pc + 9) = .ok (.athrow, 1)) (hfl : names.length + 4 ≤ (q_gR Γ).frames ∧ 8 + (13 * (names.length + 1) + 43) ≤ (q_gR Γ).locals) (hst : (st.map fun v => if q_2 v then 2 else 1).sum ≤ 8) (h : q_th N σ = some w) : q_W E Γ (q_QF E Γ gB w) nL σ pc l st := by
  obtain ⟨r', τ⟩ := w
  simp only [q_th, Option.some.injEq, Prod.mk.injEq] at h
  obtain ⟨rfl, rfl⟩ := h
  intro h1 h2 H locs ls hz hH hS hl
  have hs8 := q_wt hst
  have hR1 : σ.2.1 + 1 - q_gn Γ ≤ (q_gR Γ).cells := hR.1
  have hR2 : σ.2.2 + 6 - q_gl Γ ≤ (q_gR Γ).slots := hR.2
  have hg := C.2.2.2.2.2.2.2.1
  refine vx_throwS (A := q_A E) C.1 C.2.1 C.2.2.2.2.2.2.1.2.2.2.2.2.2.2 C.2.2.2.1 hN.1 hN.2 (C.2.2.2.2.1 _ hw.1) (C.2.2.2.2.1 _ hw.2) (C.2.2.2.2.2.2.1.2.1 _ hs) (vx_hat (fun w hw => C.2.2.2.2.1 w (hat.1 w hw)) hat.2 (fun w hw => va_Nw.use (q_CW_ot w hw) (C.2.2.2.2.2.2.1.2.2.2.2.2.2.1 w hw))) hgood hg.2.2.2.1 hg.2.2.2.2.1 hS (by rw [C.2.2.1]; exact hl.1) d0 d3 d4 d6 d9 (fun x hx => (hT x hx).elim) (by have := hfl.1; omega) (by have := hfl.2; omega) (by omega) (by omega) C.2.2.2.2.2.2.2.2.2 ?_ hS.2.2 (by show _ ≤ σ.2.1 + 1 - q_gn Γ; omega) (by show _ ≤ σ.2.2 + 6 - q_gl Γ; omega)
  intro t hW hsz hk
  have hS1 : va_S (q_A E) (q_gs Γ).heap t.heap locs := q_S.new hS hsz hk
  refine ⟨by rw [hz], q_Wd_of (σ := (σ.1, σ.2.1 + 1, σ.2.2 + 6)) C (by rw [hsz, hz]) (fun b x hb => ?_) hS1 rfl hW, hS1.F rfl⟩
  have hx := hH b x hb
  rcases x with ⟨t9, A⟩ | ⟨ci, fs⟩ | ⟨k, i⟩
  · exact hx.kept (hk b (Array.getElem?_eq_some_iff.mp hx.2).1)
  · obtain ⟨-, r, -, -, cell, hc, -⟩ := id hx
    exact hx.kept (hk b (Array.getElem?_eq_some_iff.mp hc).1)
  · exact hx
/-- athrow of an object of ours -/
theorem q_athrow {ci : Nat} {r0 : vw_C} {w : (β ⊕ q_Exn) × q_St} (C : q_C E Γ cc own nL) (hT : q_nT Γ) (hc : vwCl[ci]? = some r0) (d : decode cc pc = .ok (.athrow, 1)) (h : q_rd (q_is r ci) (fun _ => q_tr r0.1 r) σ = some w) : q_W E Γ (q_QF E Γ gB w) nL σ pc l (q_R r :: st) := by
  obtain ⟨u, hu, h9⟩ := q_rd_e h
  clear h
  obtain ⟨b, fs, hr, hMb⟩ := q_is_e hu
  subst hr
  obtain ⟨r', τ⟩ := w
  simp only [q_tr, Option.some.injEq, Prod.mk.injEq] at h9
  obtain ⟨rfl, rfl⟩ := h9
  intro h1 h2 H locs ls hz hH hS hl
  obtain ⟨-, r, e1, e2, cell, g1, g2, g3, -⟩ := hH b _ hMb
  have er : r = r0 := Option.some.inj (e1.symm.trans hc)
  subst er
  have hcl : (q_gs Γ).vm.findClass r.1 = some cell.cls := by rw [g2]; exact (C.2.2.2.2.2.1.1 ci r hc).2.1
  intro T hTh X
  obtain ⟨st1, hrun, hend, hW, hsm⟩ := X.athrowLeaves C.1 (g := F0 (q_gm Γ) pc ls ((q_R (some b) :: st).map q_v)) rfl rfl rfl (fun x hx => (hT x hx).elim) (a := b) (rest := st.map q_v) rfl (by rw [C.2.1]; exact d) C.2.2.2.2.2.2.2.2.2
  have hcell9 : (T.setFrames (.throwing b :: q_gb Γ)).heap[b]? = some cell := by
    show T.heap[b]? = some cell
    rw [hTh]; exact g1
  exact ⟨_, st1, .threw b, hrun, hend, Or.inr ⟨b, rfl, r.1, cell, locs, ⟨rfl, q_Wd_of C hz hH hS hTh hW, hS.F hTh⟩, hcell9, g3, hcl, hW, hsm, hS.2.2⟩⟩
end QRJ
