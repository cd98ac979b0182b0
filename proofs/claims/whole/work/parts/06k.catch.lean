/-! ===== rows: wide constants, classes of arrays, copies of rows of references, calls whose exceptions are caught ===== -/
section QRK
variable {E : q_Ev} {Γ : q_Gm} {Q : State → Prop} {nL : Nat} {σ : q_St} {pc : Nat} {l : List (Nat × q_TV)} {stk st As : List q_TV} {cc : ByteArray} {own : String}
variable {α β : Type} {w : (β ⊕ q_Exn) × q_St} {g : α → Option Value} {gB : β → Option Value} {ps : α → List q_TV} {f : q_X α} {k : α → q_X β} {y : MethodName} {ix mL n fr1 lo1 : Nat} {bytes : ByteArray} {rt9 : Option FieldType} {r : Option Nat}
theorem q_ldcwI (C : q_C E Γ cc own nL) {v : Int32} (d : decode cc pc = .ok (.ldc_w ix, 3)) (hw : Cond.constant own ix v ∈ q_Wt) (n : q_W E Γ Q nL σ (pc + 3) l (q_I v :: st)) : q_W E Γ Q nL σ pc l st := fun h1 h2 H locs ls hz hH hS hl => lv_ldcw C.1 C.2.1 C.2.2.2.1 (C.2.2.2.2.1 _ hw) d (n h1 h2 H locs ls hz hH hS hl)
theorem q_kapK {i : Nat} (h : i < 90) : q_kap E i = q_eK E i := by
  unfold q_kap
  rw [if_neg (by omega), if_neg (by omega), if_neg (by omega), if_neg (by omega), if_neg (by omega), if_pos (by omega)]
theorem q_ldcT (C : q_C E Γ cc own nL) {k : Nat} {tx : String} (d : decode cc pc = .ok (.ldc ix, 2)) (hw : (own, ix, tx, k) ∈ q_SR) (hk : k < 90) (n : q_W E Γ Q nL σ (pc + 2) l (q_R (some (q_kap E k)) :: st)) : q_W E Γ Q nL σ pc l st := by
  rw [q_kapK hk] at n
  exact q_ldcS C d hw n
theorem q_ldcTw (C : q_C E Γ cc own nL) {k : Nat} {tx : String} (d : decode cc pc = .ok (.ldc_w ix, 3)) (hw : (own, ix, tx, k) ∈ q_SR) (hk : k < 90) (n : q_W E Γ Q nL σ (pc + 3) l (q_R (some (q_kap E k)) :: st)) : q_W E Γ Q nL σ pc l st := by
  rw [q_kapK hk] at n
  intro h1 h2 H locs ls hz hH hS hl T hT X
  obtain ⟨t, a1, b1⟩ := n h1 h2 H locs ls hz hH hS hl T hT X
  have hZ := C.2.2.2.2.2.2.1.2.1 _ hw
  exact ⟨t, X.ldcStringW C.1 C.2.2.2.1 (text := tx) (a := q_eK E k) hZ.1 hZ.2 (g := F0 (q_gm Γ) pc ls (st.map q_v)) rfl (by rw [C.2.1]; exact d) t a1, b1⟩
theorem q_getCl {k9 : q_X β} (C : q_C E Γ cc own nL) (d : decode cc pc = .ok (.invokevirtual ix, 3)) (hw : Cond.methodLink own ix ⟨"java/lang/Object", "getClass", "()Ljava/lang/Class;"⟩ ∈ q_Wt ∧ Cond.selects "[Ljava/lang/Object;" ⟨"java/lang/Object", "getClass", "()Ljava/lang/Class;"⟩ ⟨"java/lang/Object", "getClass", "()Ljava/lang/Class;"⟩ ∈ q_Wt ∧ Cond.instanceMethod ⟨"java/lang/Object", "getClass", "()Ljava/lang/Class;"⟩ ∈ q_Wt ∧ Cond.native ⟨"java/lang/Object", "getClass", "()Ljava/lang/Class;"⟩ ∈ q_Wt) (hfl : 1 ≤ (q_gR Γ).frames ∧ 22 ≤ (q_gR Γ).locals) (hst : (st.map fun v => if q_2 v then 2 else 1).sum ≤ 8) (h : q_rd (fun M => (q_ar r M).bind fun p => if p.2.1 = 7 then some () else none) (fun _ => k9) σ = some w) (n : k9 σ = some w → q_W E Γ Q nL σ (pc + 3) l (q_R (some (q_kap E 98)) :: st)) : q_W E Γ Q nL σ pc l (q_R r :: st) := by
  obtain ⟨u, hx, h9⟩ := q_rd_e h
  clear h
  simp only [Option.bind_eq_some_iff] at hx
  obtain ⟨⟨a, t, A⟩, e1, e2⟩ := hx
  obtain ⟨rfl, hM⟩ := q_ar_e e1
  by_cases ht : t = 7
  · subst ht
    intro h1 h2 H locs ls hz hH hS hl
    have hts := C.2.2.2.2.1
    have hg := C.2.2.2.2.2.2.1
    have hs := q_wt hst
    obtain ⟨-, hc⟩ := hH a _ hM
    have hcl : (q_gs Γ).vm.findClass "[Ljava/lang/Object;" = some (q_eT E 7) := va_nmO (C.2.2.2.2.2.1.2 7 _ rfl).2 (by decide +kernel)
    refine va_getC C.1 C.2.1 (by rw [C.2.2.1]; exact hl.1.symm) C.2.2.2.1 (hts _ hw.1) (va_Dc.use hg.2.2.2.2.2.1) (hts _ hw.2.1) (hts _ hw.2.2.1) (hts _ hw.2.2.2) hg.2.2.2.2.1 ⟨_, hc, ?_, ?_⟩ hfl.1 (by have := hfl.2; omega) d (n h9 h1 h2 H locs ls hz hH hS hl)
    · obtain ⟨m, f | f | f | f | f⟩ := A <;> rfl
    · rw [hcl]
      obtain ⟨m, f | f | f | f | f⟩ := A <;> rfl
  · rw [if_neg ht] at e2; cases e2
theorem q_ldcM (C : q_C E Γ cc own nL) (d : decode cc pc = .ok (.ldc ix, 2)) (hw : Cond.classLink own ix "[Ljava/lang/Object;" ∈ q_Wt) (n : q_W E Γ Q nL σ (pc + 2) l (q_R (some (q_kap E 98)) :: st)) : q_W E Γ Q nL σ pc l st := fun h1 h2 H locs ls hz hH hS hl => va_ldcM C.1 C.2.1 C.2.2.2.1 (C.2.2.2.2.1 _ hw) C.2.2.2.2.2.2.1.2.2.2.2.1 d (n h1 h2 H locs ls hz hH hS hl)
theorem q_cpA {k9 : q_X β} (C : q_C E Γ cc own nL) {r0 r1 : Option Nat} {sp dp z : Int32} (d : decode cc pc = .ok (.invokestatic ix, 3)) (hw : Cond.methodLink own ix arraycopyName ∈ q_Wt ∧ Cond.native arraycopyName ∈ q_Wt ∧ Cond.static arraycopyName ∈ q_Wt ∧ Cond.initialized "java/lang/System" ∈ q_Wt) (hfl : 1 ≤ (q_gR Γ).frames ∧ 40 ≤ (q_gR Γ).locals) (hst : (st.map fun v => if q_2 v then 2 else 1).sum ≤ 8) (h : q_wr (q_cA r0 sp r1 dp z) k9 σ = some w) (n : ∀ M, k9 (M, σ.2) = some w → q_W E Γ Q nL (M, σ.2) (pc + 3) l st) : q_W E Γ Q nL σ pc l (q_I z :: q_I dp :: q_R r1 :: q_I sp :: q_R r0 :: st) := by
  obtain ⟨M, hx, h9⟩ := q_wr_e h
  clear h
  simp only [q_cA, Option.bind_eq_some_iff] at hx
  obtain ⟨⟨a0, t0, n0, f | f | f | f | f⟩, e1, ⟨a, t1, n1, g | g | g | g | g⟩, e2, e3⟩ := hx
  case inr.inr.inr.inr.inr.inr.inr.inr =>
    obtain ⟨rfl, hM0⟩ := q_ar_e e1
    obtain ⟨rfl, hM1⟩ := q_ar_e e2
    dsimp only at e3
    split at e3
    · rename_i hc
      obtain ⟨⟨rfl, rfl⟩, ⟨g1, g2, g3, g4, g5⟩, g6⟩ := hc
      cases e3
      intro h1 h2 H locs ls hz hH hS hl
      have hts := C.2.2.2.2.1
      have hK := C.2.2.2.2.2.1
      obtain ⟨hB0, hc0⟩ := hH a0 _ hM0
      obtain ⟨hB1, hc1⟩ := hH a _ hM1
      have hs := q_wt hst
      intro T hT X
      obtain ⟨-, k0, hk0, cm0, hkk0⟩ := (hK.2 7 _ rfl).1 n0 (fun j => va_rf (f j))
      obtain ⟨-, k1, hk1, cm1, hkk1⟩ := (hK.2 7 _ rfl).1 n1 (fun j => va_rf (g j))
      have hnw : nativeFrameWords "java/lang/System" "arraycopy" 5 + 11 + 8 ≤ 40 := by decide
      obtain ⟨vm', X', step⟩ := X.arraycopy C.1 C.2.2.2.1 (hts _ hw.1) (hts _ hw.2.1) (hts _ hw.2.2.1) (hts _ hw.2.2.2) (src := a0) (dst := a) (cs := vp_cell (q_eT E 7) (n0, .inr (.inr (.inr (.inr f))))) (cd := vp_cell (q_eT E 7) (n1, .inr (.inr (.inr (.inr g))))) (srcPos := sp) (destPos := dp) (n := z) (by rw [hT]; exact hc0) (by rw [hT]; exact hc1)
        (fun _ h => by cases h) (fun _ h => by cases h) (fun h => by cases h) (fun h => by cases h) hk0 hk1 hkk0 hkk1 rfl g1 g2 g3
        (by rw [q_nn g1, q_nn g3]; show ¬ _ > ((arrV _ n0 (fun j => va_rf (f j))).slots.size : Int); rw [arrV_size]; omega)
        (by rw [q_nn g2, q_nn g3]; show ¬ _ > ((arrV _ n1 (fun j => va_rf (g j))).slots.size : Int); rw [arrV_size]; omega)
        (fun vm₁ hal i hi => by
          have e : (vp_cell (q_eT E 7) (n0, .inr (.inr (.inr (.inr f))))).slots.getD (sp.toNatClampNeg + i) .null = va_rf (f (sp.toNatClampNeg + i)) := by
            show (arrV _ n0 (fun j => va_rf (f j))).slots.getD _ _ = _
            rw [Array.getD_eq_getD_getElem?, arrV_read _ _ (by omega)]
            rfl
          rw [e]
          have g7 := g6 i hi
          cases hy : f (sp.toNatClampNeg + i) with
          | none => exact ⟨rfl, trivial⟩
          | some y =>
            rw [hy] at g7
            rcases g7 with g7 | g7
            · cases g7
            · cases hq : q_is (some y) 6 σ.1 with
              | none => rw [hq] at g7; cases g7
              | some u =>
                obtain ⟨y', fs, ey, hMy⟩ := q_is_e hq
                cases ey
                obtain ⟨-, r2, j1, j2, cellV, i1, i2, i3, -⟩ := hH y _ hMy
                have er : r2 = (RX3, TX3, 8) := Option.some.inj (j1.symm.trans rfl)
                subst er
                have hcls := (hK.1 6 _ rfl).2
                obtain ⟨kC, hkC, -⟩ := hcls.2
                obtain ⟨kA, comp, r1, r2, r3, -⟩ := (hK.2 7 _ rfl).2
                cases hk1.symm.trans r1
                cases hkk1.symm.trans r2
                obtain ⟨kE, hkE, -⟩ := Vm.findClass_spec r3
                obtain ⟨kC', hkC', -⟩ := hal.2.2 _ _ hkC
                obtain ⟨kE', hkE', -⟩ := hal.2.2 _ _ hkE
                obtain ⟨c3, c4, f1, f2, f3⟩ := Cond.castable_spec (va_Nw.use (A := q_ga Γ) rfl (C.2.2.2.2.2.2.1.2.2.2.2.2.2.1 (.castable "IsaForge$Line" "java/lang/Object") (by decide +kernel)))
                cases Option.some.inj (f1.symm.trans hcls.1)
                cases Option.some.inj (f2.symm.trans r3)
                refine ⟨rfl, cellV, (show T.heap[y]? = some cellV by rw [hT]; exact i1), (fun q h => by rw [i3] at h; cases h), by rw [i2]; exact ⟨kC', hkC'⟩, ⟨kE', hkE'⟩, ?_⟩
                show vm₁.assignable _ _ = true
                rw [hal.assignable, i2]
                exact f3)
        (g := F0 (q_gm Γ) pc ls (.int z :: .int dp :: .ref a :: .int sp :: .ref a0 :: st.map q_v)) rfl (by rw [C.2.2.1]; exact hl.1) (rest := st.map q_v) rfl (by rw [C.2.1]; exact d) hfl.1 (by show 2 * 0 + _ + _ ≤ _; have := hfl.2; omega)
      have e1 : copied (vp_cell (q_eT E 7) (n0, .inr (.inr (.inr (.inr f))))) (vp_cell (q_eT E 7) (n1, .inr (.inr (.inr (.inr g))))) sp dp z = vp_cell (q_eT E 7) (n1, .inr (.inr (.inr (.inr (va_cpy f g sp.toNatClampNeg dp.toNatClampNeg z.toNatClampNeg))))) := va_copied (fun z => va_rf z) (q_eT E 7) (q_eT E 7) f g g4
      rw [e1] at X' step
      have hl2 : a < H.size := (Array.getElem?_eq_some_iff.mp hc1).1
      have hheap : ((T.setVm vm').setCell a (vp_cell (q_eT E 7) (n1, .inr (.inr (.inr (.inr (va_cpy f g sp.toNatClampNeg dp.toNatClampNeg z.toNatClampNeg))))))).heap = H.setIfInBounds a (vp_cell (q_eT E 7) (n1, .inr (.inr (.inr (.inr (va_cpy f g sp.toNatClampNeg dp.toNatClampNeg z.toNatClampNeg)))))) := by rw [← hT]; rfl
      have oq : ∀ q : Nat, q ≠ a → (H.setIfInBounds a (vp_cell (q_eT E 7) (n1, .inr (.inr (.inr (.inr (va_cpy f g sp.toNatClampNeg dp.toNatClampNeg z.toNatClampNeg)))))))[q]? = H[q]? := fun q hq => by simp [Array.getElem?_setIfInBounds, Ne.symm hq]
      obtain ⟨t, a1, b1⟩ := n _ h9 h1 h2 _ _ ls (by simp; exact hz) (hH.set ⟨hB1, show (H.setIfInBounds a _)[a]? = some _ by simp [Array.getElem?_setIfInBounds, hl2]⟩ oq) ⟨by simp; exact hS.1, fun q g1 g2 => by
          rw [oq q (fun e => g2 (by rw [e]; exact hB1.1))]
          exact hS.2.1 q g1 g2, fun q hq => by
          rcases List.mem_append.mp hq with h | h
          · exact hS.2.2 q h
          · obtain ⟨z, -, hz⟩ := List.mem_map.mp h
            rw [← hz]
            exact hB1.1⟩ hl _ hheap X'
      exact ⟨t, step t a1, b1⟩
    · cases e3
  all_goals cases e3
/-- a call of a method of ours, an exception of it caught by row x of this method's table -/
theorem q_callVc {ci : Nat} {r0 : vw_C} {kx : q_Exn → q_X β} (C : q_C E Γ cc own nL) (hR : w.2.2.1 - q_gn Γ ≤ (q_gR Γ).cells ∧ w.2.2.2 - q_gl Γ ≤ (q_gR Γ).slots) (hps : ∀ x, (g x).toList = (ps x).map q_v) (hM : q_ML own ix y (.code y bytes mL rt9) n) (hv : vwCl[ci]? = some r0 ∧ Cond.instanceMethod y ∈ q_Wt ∧ Cond.selects r0.1 y y ∈ q_Wt) (d : decode cc pc = .ok (.invokevirtual ix, 3)) (hn : As.length = n) (hstk : stk = As.reverse ++ q_R r :: st) (hst : (st.map fun v => if q_2 v then 2 else 1).sum ≤ 8) (hfl : fr1 + 1 ≤ (q_gR Γ).frames ∧ 8 + (mL + 11) + lo1 ≤ (q_gR Γ).locals)
    (hc : q_Ct E y (.code y bytes mL rt9) fr1 lo1 (q_R r :: As) g f) (mf : q_mo f) (mk : ∀ x, q_mo (k x)) (mx : ∀ x, q_mo (kx x)) (h : q_rd (q_is r ci) (fun _ => q_cc f k kx) σ = some w)
    (nx : ∀ x τ, k x τ = some w → q_W E Γ Q nL τ (pc + 3) l (ps x ++ st))
    (hx : ∀ N q τ, kx (N, q) τ = some w → ∃ (pre : List ExceptionTableEntry) (x : ExceptionTableEntry) (suf : List ExceptionTableEntry) (name : String), (q_gc Γ).exceptionTable.toList = pre ++ x :: suf ∧ (∀ z ∈ pre, covers z pc = false ∨ (z.catchType ≠ 0 ∧ ∃ nm : String, Cond.classLink own z.catchType nm ∈ q_Wt ∧ (N, nm) ∈ q_NC)) ∧ covers x pc = true ∧ x.catchType ≠ 0 ∧ Cond.classLink own x.catchType name ∈ q_Wt ∧ Cond.castable N name ∈ q_CW ∧ q_W E Γ Q nL τ x.handlerPc l [q_R (some q)]) : q_W E Γ Q nL σ pc l stk := by
  subst hstk
  obtain ⟨u, hu, h9⟩ := q_rd_e h
  obtain ⟨b, fs, hr, hMb⟩ := q_is_e hu
  subst hr
  clear h
  obtain ⟨hM1, hM2, hM3, hM4, hM5⟩ := hM
  have hts := C.2.2.2.2.1
  have main : ∀ (r' : α ⊕ q_Exn) (τ : q_St), f σ = some (r', τ) → q_le τ w.2 → (∀ x, r' = .inl x → k x τ = some w) → (∀ x, r' = .inr x → kx x τ = some w) → q_W E Γ Q nL σ pc l (As.reverse ++ q_R (some b) :: st) := by
    intro r' τ hf m2 k1 k2 h1 h2 H locs ls hz hH hS hl
    have m1 := mf _ _ _ hf
    refine q_run (r := r') (τ := τ) m1 h1 h2 hS (rest := st.map q_v) (vx_runV (As := As.map q_v) ⟨C.1, C.2.1, C.2.2.1, C.2.2.2.1, hts⟩ (hc σ r' τ hf) ⟨⟨rfl, rfl, hfl.1, hfl.2, q_pay hts hM3, List.mem_cons_self, hts _ hM3, hts _ hM2, hM4, q_len9 hM5, hts _ hM1⟩, hts _ hv.2.1, hts _ hv.2.2⟩ ⟨q_Wd_cl, q_recv C hH hMb hv.1, fun U hU hW => ⟨rfl, q_Wd_of C hz hH hS hU hW⟩⟩ rfl (by rw [List.length_map]; exact hn) hl.1 (by simp [q_v, va_rf]) (lv_room (q_wt hst)) d (q_roomy hR h1 h2 m1 m2)) ?_ ?_
    · intro x hx H1 locs1 z1 o1 s1
      have e := nx x τ (k1 x hx) (Nat.le_trans h1 m1.1) (Nat.le_trans h2 m1.2) H1 locs1 ls z1 o1 s1 hl
      rw [List.map_append, ← hps] at e
      exact e
    · intro N q hq H1 locs1 ce z1 o1 s1 c1 c2 c3
      obtain ⟨pre, x, suf, name, t1, t2, t3, t4, t5, t6, t7⟩ := hx N q τ (k2 _ hq)
      refine vx_catch C.2.2.2.1 pre x suf t1 (fun z hz => ?_) t3 t4 (hts _ t5) (va_Nw.use rfl (C.2.2.2.2.2.2.1.2.2.2.2.2.2.1 _ t6)) c1 c2 c3 (t7 (Nat.le_trans h1 m1.1) (Nat.le_trans h2 m1.2) H1 locs1 ls z1 o1 s1 hl)
      rcases t2 z hz with h | ⟨h0, nm, hl1, hl2⟩
      · exact Or.inl h
      · exact Or.inr ⟨h0, nm, hts _ hl1, C.2.2.2.2.2.2.1.2.2.2.1 _ hl2⟩
  rcases q_cc_e h9 with ⟨x, τ, hf, hk⟩ | ⟨x, τ, hf, hk⟩
  · exact main _ τ hf (by obtain ⟨w1, w2⟩ := w; exact mk x _ _ _ hk) (fun z hz => by cases hz; exact hk) (fun z hz => by cases hz)
  · exact main _ τ hf (by obtain ⟨w1, w2⟩ := w; exact mx x _ _ _ hk) (fun z hz => by cases hz) (fun z hz => by cases hz; exact hk)
end QRK
