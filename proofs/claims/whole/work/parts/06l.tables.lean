/-! ===== rows: methods with a table of exceptions ===== -/
section QRL
variable {E : q_Ev} {Γ : q_Gm} {Q : State → Prop} {nL : Nat} {σ : q_St} {pc : Nat} {l : List (Nat × q_TV)} {stk st As : List q_TV} {cc : ByteArray} {own : String}
variable {α β : Type} {w : (β ⊕ q_Exn) × q_St} {g : α → Option Value} {gB : β → Option Value} {ps : α → List q_TV} {f : q_X α} {k : α → q_X β} {y : MethodName} {ix ci mL n fr1 lo1 : Nat} {bytes : ByteArray} {rt9 : Option FieldType} {r : Option Nat} {r0 : vw_C}
theorem q_callVo (C : q_C E Γ cc own nL) (hR : w.2.2.1 - q_gn Γ ≤ (q_gR Γ).cells ∧ w.2.2.2 - q_gl Γ ≤ (q_gR Γ).slots) (hT : ∀ x ∈ (q_gc Γ).exceptionTable.toList, covers x pc = false) (hps : ∀ x, (g x).toList = (ps x).map q_v) (hM : q_ML own ix y (.code y bytes mL rt9) n) (hv : vwCl[ci]? = some r0 ∧ Cond.instanceMethod y ∈ q_Wt ∧ Cond.selects r0.1 y y ∈ q_Wt) (d : decode cc pc = .ok (.invokevirtual ix, 3)) (hn : As.length = n) (hstk : stk = As.reverse ++ q_R r :: st) (hst : (st.map fun v => if q_2 v then 2 else 1).sum ≤ 8) (hfl : fr1 + 1 ≤ (q_gR Γ).frames ∧ 8 + (mL + 11) + lo1 ≤ (q_gR Γ).locals)
    (hc : q_Ct E y (.code y bytes mL rt9) fr1 lo1 (q_R r :: As) g f) (mf : q_mo f) (mk : ∀ x, q_mo (k x)) (h : q_rd (q_is r ci) (fun _ => q_ca f k) σ = some w)
    (nx : ∀ x τ, k x τ = some w → q_W E Γ (q_QF E Γ gB w) nL τ (pc + 3) l (ps x ++ st)) : q_W E Γ (q_QF E Γ gB w) nL σ pc l stk := by
  subst hstk
  obtain ⟨u, hu, h9⟩ := q_rd_e h
  obtain ⟨b, fs, hr, hMb⟩ := q_is_e hu
  subst hr
  clear h
  obtain ⟨hM1, hM2, hM3, hM4, hM5⟩ := hM
  have hts := C.2.2.2.2.1
  have main : ∀ (r' : α ⊕ q_Exn) (τ : q_St), f σ = some (r', τ) → q_le τ w.2 → (∀ x, r' = .inl x → k x τ = some w) → (∀ x, r' = .inr x → w = (.inr x, τ)) → q_W E Γ (q_QF E Γ gB w) nL σ pc l (As.reverse ++ q_R (some b) :: st) := by
    intro r' τ hf m2 k1 k2 h1 h2 H locs ls hz hH hS hl
    have m1 := mf _ _ _ hf
    refine q_run (r := r') (τ := τ) m1 h1 h2 hS (rest := st.map q_v) (vx_runV (As := As.map q_v) ⟨C.1, C.2.1, C.2.2.1, C.2.2.2.1, hts⟩ (hc σ r' τ hf) ⟨⟨rfl, rfl, hfl.1, hfl.2, q_pay hts hM3, List.mem_cons_self, hts _ hM3, hts _ hM2, hM4, q_len9 hM5, hts _ hM1⟩, hts _ hv.2.1, hts _ hv.2.2⟩ ⟨q_Wd_cl, q_recv C hH hMb hv.1, fun U hU hW => ⟨rfl, q_Wd_of C hz hH hS hU hW⟩⟩ rfl (by rw [List.length_map]; exact hn) hl.1 (by simp [q_v, va_rf]) (lv_room (q_wt hst)) d (q_roomy hR h1 h2 m1 m2)) ?_ ?_
    · intro x hx H1 locs1 z1 o1 s1
      have e := nx x τ (k1 x hx) (Nat.le_trans h1 m1.1) (Nat.le_trans h2 m1.2) H1 locs1 ls z1 o1 s1 hl
      rw [List.map_append, ← hps] at e
      exact e
    · intro N q hx H1 locs1 ce z1 o1 s1 c1 c2 c3
      rw [k2 _ hx]
      exact q_leave C hT z1 o1 s1 c1 c2 c3
  rcases q_ca_e h9 with ⟨x, τ, hf, hk⟩ | ⟨x, τ, hf, hw⟩
  · exact main _ τ hf (by obtain ⟨w1, w2⟩ := w; exact mk x _ _ _ hk) (fun z hz => by cases hz; exact hk) (fun z hz => by cases hz)
  · exact main _ τ hf (by rw [hw]; exact q_le_r τ) (fun z hz => by cases hz) (fun z hz => by cases hz; exact hw)
theorem q_callVX {hh : List (Nat × Nat × Nat × Nat)} (C : q_C E Γ cc own nL) (hR : w.2.2.1 - q_gn Γ ≤ (q_gR Γ).cells ∧ w.2.2.2 - q_gl Γ ≤ (q_gR Γ).slots) (hT : q_nT Γ) (hps : ∀ x, (g x).toList = (ps x).map q_v) (hM : q_ML own ix y (.codeWith y bytes mL rt9 hh) n) (hv : vwCl[ci]? = some r0 ∧ Cond.instanceMethod y ∈ q_Wt ∧ Cond.selects r0.1 y y ∈ q_Wt) (d : decode cc pc = .ok (.invokevirtual ix, 3)) (hn : As.length = n) (hstk : stk = As.reverse ++ q_R r :: st) (hst : (st.map fun v => if q_2 v then 2 else 1).sum ≤ 8) (hfl : fr1 + 1 ≤ (q_gR Γ).frames ∧ 8 + (mL + 11) + lo1 ≤ (q_gR Γ).locals)
    (hc : q_Ct E y (.codeWith y bytes mL rt9 hh) fr1 lo1 (q_R r :: As) g f) (mf : q_mo f) (mk : ∀ x, q_mo (k x)) (h : q_rd (q_is r ci) (fun _ => q_ca f k) σ = some w)
    (nx : ∀ x τ, k x τ = some w → q_W E Γ (q_QF E Γ gB w) nL τ (pc + 3) l (ps x ++ st)) : q_W E Γ (q_QF E Γ gB w) nL σ pc l stk := by
  subst hstk
  obtain ⟨u, hu, h9⟩ := q_rd_e h
  obtain ⟨b, fs, hr, hMb⟩ := q_is_e hu
  subst hr
  clear h
  obtain ⟨hM1, hM2, hM3, hM4, hM5⟩ := hM
  have hts := C.2.2.2.2.1
  have main : ∀ (r' : α ⊕ q_Exn) (τ : q_St), f σ = some (r', τ) → q_le τ w.2 → (∀ x, r' = .inl x → k x τ = some w) → (∀ x, r' = .inr x → w = (.inr x, τ)) → q_W E Γ (q_QF E Γ gB w) nL σ pc l (As.reverse ++ q_R (some b) :: st) := by
    intro r' τ hf m2 k1 k2 h1 h2 H locs ls hz hH hS hl
    have m1 := mf _ _ _ hf
    refine q_run (r := r') (τ := τ) m1 h1 h2 hS (rest := st.map q_v) (vx_runVX (hh := hh) (As := As.map q_v) ⟨C.1, C.2.1, C.2.2.1, C.2.2.2.1, hts⟩ (hc σ r' τ hf) ⟨⟨rfl, rfl, hfl.1, hfl.2, q_pay hts hM3, List.mem_cons_self⟩, hts _ hM3, hts _ hM2, hM4, q_len9 hM5, hts _ hM1, hts _ hv.2.1, hts _ hv.2.2⟩ ⟨q_Wd_cl, q_recv C hH hMb hv.1, fun U hU hW => ⟨rfl, q_Wd_of C hz hH hS hU hW⟩⟩ rfl (by rw [List.length_map]; exact hn) hl.1 (by simp [q_v, va_rf]) (lv_room (q_wt hst)) d (q_roomy hR h1 h2 m1 m2)) ?_ ?_
    · intro x hx H1 locs1 z1 o1 s1
      have e := nx x τ (k1 x hx) (Nat.le_trans h1 m1.1) (Nat.le_trans h2 m1.2) H1 locs1 ls z1 o1 s1 hl
      rw [List.map_append, ← hps] at e
      exact e
    · intro N q hx H1 locs1 ce z1 o1 s1 c1 c2 c3
      rw [k2 _ hx]
      exact q_leave C (fun x hx => (hT x hx).elim) z1 o1 s1 c1 c2 c3
  rcases q_ca_e h9 with ⟨x, τ, hf, hk⟩ | ⟨x, τ, hf, hw⟩
  · exact main _ τ hf (by obtain ⟨w1, w2⟩ := w; exact mk x _ _ _ hk) (fun z hz => by cases hz; exact hk) (fun z hz => by cases hz)
  · exact main _ τ hf (by rw [hw]; exact q_le_r τ) (fun z hz => by cases hz) (fun z hz => by cases hz; exact hw)
theorem q_callSX {hh : List (Nat × Nat × Nat × Nat)} (C : q_C E Γ cc own nL) (hR : w.2.2.1 - q_gn Γ ≤ (q_gR Γ).cells ∧ w.2.2.2 - q_gl Γ ≤ (q_gR Γ).slots) (hT : q_nT Γ) (hps : ∀ x, (g x).toList = (ps x).map q_v) (hM : q_ML own ix y (.codeWith y bytes mL rt9 hh) n) (hv : Cond.static y ∈ q_Wt) (d : decode cc pc = .ok (.invokestatic ix, 3)) (hn : As.length = n) (hstk : stk = As.reverse ++ st) (hst : (st.map fun v => if q_2 v then 2 else 1).sum ≤ 8) (hfl : fr1 + 1 ≤ (q_gR Γ).frames ∧ 8 + (mL + 11) + lo1 ≤ (q_gR Γ).locals)
    (hc : q_Ct E y (.codeWith y bytes mL rt9 hh) fr1 lo1 As g f) (mf : q_mo f) (mk : ∀ x, q_mo (k x)) (h : q_ca f k σ = some w)
    (nx : ∀ x τ, k x τ = some w → q_W E Γ (q_QF E Γ gB w) nL τ (pc + 3) l (ps x ++ st)) : q_W E Γ (q_QF E Γ gB w) nL σ pc l stk := by
  subst hstk
  obtain ⟨hM1, hM2, hM3, hM4, hM5⟩ := hM
  have hts := C.2.2.2.2.1
  have main : ∀ (r' : α ⊕ q_Exn) (τ : q_St), f σ = some (r', τ) → q_le τ w.2 → (∀ x, r' = .inl x → k x τ = some w) → (∀ x, r' = .inr x → w = (.inr x, τ)) → q_W E Γ (q_QF E Γ gB w) nL σ pc l (As.reverse ++ st) := by
    intro r' τ hf m2 k1 k2 h1 h2 H locs ls hz hH hS hl
    have m1 := mf _ _ _ hf
    refine q_run (r := r') (τ := τ) m1 h1 h2 hS (rest := st.map q_v) (vx_runSX (hh := hh) (As := As.map q_v) ⟨C.1, C.2.1, C.2.2.1, C.2.2.2.1, hts⟩ (hc σ r' τ hf) ⟨⟨rfl, rfl, hfl.1, hfl.2, q_pay hts hM3, List.mem_cons_self⟩, hts _ hM3, hts _ hM2, hM4, q_len9 hM5, hts _ hM1, hts _ hv⟩ ⟨q_Wd_cl, fun U hU hW => ⟨rfl, q_Wd_of C hz hH hS hU hW⟩⟩ rfl (by rw [List.length_map]; exact hn) hl.1 (by simp) (lv_room (q_wt hst)) d (q_roomy hR h1 h2 m1 m2)) ?_ ?_
    · intro x hx H1 locs1 z1 o1 s1
      have e := nx x τ (k1 x hx) (Nat.le_trans h1 m1.1) (Nat.le_trans h2 m1.2) H1 locs1 ls z1 o1 s1 hl
      rw [List.map_append, ← hps] at e
      exact e
    · intro N q hx H1 locs1 ce z1 o1 s1 c1 c2 c3
      rw [k2 _ hx]
      exact q_leave C (fun x hx => (hT x hx).elim) z1 o1 s1 c1 c2 c3
  rcases q_ca_e h with ⟨x, τ, hf, hk⟩ | ⟨x, τ, hf, hw⟩
  · exact main _ τ hf (by obtain ⟨w1, w2⟩ := w; exact mk x _ _ _ hk) (fun z hz => by cases hz; exact hk) (fun z hz => by cases hz)
  · exact main _ τ hf (by rw [hw]; exact q_le_r τ) (fun z hz => by cases hz) (fun z hz => by cases hz; exact hw)
end QRL
section QRM
variable {E : q_Ev} {Γ : q_Gm} {Q : State → Prop} {nL : Nat} {σ : q_St} {pc : Nat} {l : List (Nat × q_TV)} {stk st As : List q_TV} {cc : ByteArray} {own : String}
variable {α β : Type} {w : (β ⊕ q_Exn) × q_St} {g : α → Option Value} {gB : β → Option Value} {f : q_X α} {y : MethodName} {ix mL n fr1 lo1 : Nat} {bytes : ByteArray} {rt9 : Option FieldType} {r : Option Nat}
/-- a method's contract out of a walk of its body -/
theorem q_enterH {hh : List (Nat × Nat × Nat × Nat)} {av : List q_TV} {fr lo : Nat} (hy : plainName y.cls = true) (hlen : (av.map fun v => if q_2 v then 2 else 1).sum ≤ nL)
    (body : ∀ (Γ : q_Gm) (σ : q_St) (w : (α ⊕ q_Exn) × q_St), f σ = some w → q_Bd E Γ cc y.cls nL fr lo rt9 y.name w → (q_gc Γ).exceptionTable.toList = tableOf hh → q_W E Γ (q_QF E Γ g w) nL σ 0 (q_args 0 av) [])   : q_Ct E y (.codeWith y cc nL rt9 hh) fr lo av g f := by
  intro σ r τ hf
  refine vx_ofWH (hh := hh) (cc := cc) (maxL := nL) (ret := rt9) hy rfl ?_
  intro p e s m args below meth c s₁ B hml hv
  obtain ⟨rfl, hW⟩ := hv
  have hts := atoms_spec (ws := Cond.codeWith y cc nL rt9 hh :: q_Wt) B.pre
  have hT := vx_table (x := y) B (hts _ List.mem_cons_self)
  have hl := lv_entry (av.map q_v) (n := nL) (by rw [q_sl_len]; exact hlen)
  rw [lg_entry_eq]
  generalize (lg_sl (av.map q_v) ++ List.replicate (nL - (lg_sl (av.map q_v)).length) Slot.unset).toArray = ls at hl ⊢
  rw [q_args_ls] at hl
  have K := body (p, e, s, m, (av.map q_v).toArray, below, meth, c, (headSpec (Cond.codeWith y cc nL rt9 hh :: q_Wt) { frames := fr, cells := τ.2.1 - σ.2.1, slots := τ.2.2 - σ.2.2, locals := lo }).room, σ.2.1, σ.2.2) σ (r, τ) hf
    ⟨⟨B.exec, B.bytes, hml, findClass_of_methodNamed B.named, fun w hw => hts w (List.mem_cons_of_mem _ hw), hW.2.2.1, hW.2.2.2.1, hW.2.2.2.2.1, hW.2.2.2.2.2, B.notSynchronized⟩, ⟨Nat.le_refl _, Nat.le_refl _⟩, rfl, rfl, B.returns, (name_of_methodNamed B.named B.method).1⟩ hT (Nat.le_refl _) (Nat.le_refl _) s.heap [] ls hW.1 hW.2.1 va_S.rf hl
  rw [show σ.2.1 - q_gn (p, e, s, m, (av.map q_v).toArray, below, meth, c, (headSpec (Cond.codeWith y cc nL rt9 hh :: q_Wt) { frames := fr, cells := τ.2.1 - σ.2.1, slots := τ.2.2 - σ.2.2, locals := lo }).room, σ.2.1, σ.2.2) = 0 from Nat.sub_self _, show σ.2.2 - q_gl (p, e, s, m, (av.map q_v).toArray, below, meth, c, (headSpec (Cond.codeWith y cc nL rt9 hh :: q_Wt) { frames := fr, cells := τ.2.1 - σ.2.1, slots := τ.2.2 - σ.2.2, locals := lo }).room, σ.2.1, σ.2.2) = 0 from Nat.sub_self _] at K
  exact K
end QRM
