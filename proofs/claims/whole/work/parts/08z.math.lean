/-! ===== entering a method of a class some of whose others are natives; no exception ===== -/
theorem q_ni_no {β : Type} : q_ni (q_no : q_X β) := fun σ x τ h => by cases h
section BodF
variable {l : Launch}
theorem wx_ofW {y : MethodName} {ws ws' : List Cond} {rm : Room} {Pc : Array Value → State → Prop} {Qc : Array Value → State → Outcome → State → Prop} {XC : String → Addr → State → State → Prop} {mc ms : Nat} {free : Addr → Prop} {cc : ByteArray} {maxL : Nat} {ret : Option FieldType}
    (hy : plainFor y = true) (hw : ws = Cond.code y cc maxL ret :: ws')
    (body : ∀ p e s m args below meth c s₁, BodyLoose p l y (headSpec ws rm) cc maxL ret e s m args below meth c s₁ → c.maxLocals = maxL → (∀ x ∈ c.exceptionTable.toList, False) → Pc args s →
      W p l e (headSpec ws rm).room s m args below meth c s.heap [] 0 0 (vx_MQ below Qc XC args s mc ms free) (entryFrame m args maxL)) : vx_Met l y ws rm Pc Qc XC mc ms free := by
  refine MetFree.of_bodySF (code := cc) (maxLocals := maxL) (ret := ret) hy ?_ ?_
  · intro args s m h hn
    obtain ⟨meth, c, h1, h2, h3, h4, h5, h6, -, -⟩ := Cond.code_spec hn (atoms_spec (ws := ws) h _ (by rw [hw]; exact List.mem_cons_self))
    exact ⟨meth, c, h1, h2, h3, h4, h5, h6⟩
  · intro p e s m args below meth c s₁ B hml hP _
    have hh0 : s₁.heap = s.heap := by rw [B.state]; rfl
    have ht : ∀ x ∈ c.exceptionTable.toList, False := by
      obtain ⟨meth9, c9, h1, h2, -, -, -, -, h7, -⟩ := Cond.code_spec B.named (atoms_spec (ws := ws) B.pre _ (by rw [hw]; exact List.mem_cons_self))
      cases Option.some.inj (h1.symm.trans B.method)
      cases Option.some.inj (h2.symm.trans (Stand.of_body B).code)
      intro x hx
      rw [Array.isEmpty_iff.mp h7] at hx
      cases hx
    obtain ⟨t, a1, o, b1, b2, b3⟩ := body p e s m args below meth c s₁ B hml ht hP s₁ hh0 (Stand.of_body B)
    exact ⟨t, o, a1, b1, b2, b3⟩
end BodF
section EnF
variable {E : q_Ev} {Γ : q_Gm} {Q : State → Prop} {nL : Nat} {σ : q_St} {pc : Nat} {l : List (Nat × q_TV)} {stk st As : List q_TV} {cc : ByteArray} {own : String}
variable {α β : Type} {w : (β ⊕ q_Exn) × q_St} {g : α → Option Value} {gB : β → Option Value} {f : q_X α} {y : MethodName} {ix mL n fr1 lo1 : Nat} {bytes : ByteArray} {rt9 : Option FieldType} {r : Option Nat}
theorem q_enterF {av : List q_TV} {fr lo : Nat} (hy : plainFor y = true) (hlen : (av.map fun v => if q_2 v then 2 else 1).sum ≤ nL)
    (body : ∀ (Γ : q_Gm) (σ : q_St) (w : (α ⊕ q_Exn) × q_St), f σ = some w → q_Bd E Γ cc y.cls nL fr lo rt9 y.name w → q_nT Γ → q_W E Γ (q_QF E Γ g w) nL σ 0 (q_args 0 av) []) : q_Ct E y (.code y cc nL rt9) fr lo av g f := by
  intro σ r τ hf
  refine wx_ofW (cc := cc) (maxL := nL) (ret := rt9) hy rfl ?_
  intro p e s m args below meth c s₁ B hml hT hv
  obtain ⟨rfl, hW⟩ := hv
  have hts := atoms_spec (ws := Cond.code y cc nL rt9 :: q_Wt) B.pre
  have hl := lv_entry (av.map q_v) (n := nL) (by rw [q_sl_len]; exact hlen)
  rw [lg_entry_eq]
  generalize (lg_sl (av.map q_v) ++ List.replicate (nL - (lg_sl (av.map q_v)).length) Slot.unset).toArray = ls at hl ⊢
  rw [q_args_ls] at hl
  have K := body (p, e, s, m, (av.map q_v).toArray, below, meth, c, (headSpec (Cond.code y cc nL rt9 :: q_Wt) { frames := fr, cells := τ.2.1 - σ.2.1, slots := τ.2.2 - σ.2.2, locals := lo }).room, σ.2.1, σ.2.2) σ (r, τ) hf
    ⟨⟨B.exec, B.bytes, hml, findClass_of_methodNamed B.named, fun w hw => hts w (List.mem_cons_of_mem _ hw), hW.2.2.1, hW.2.2.2.1, hW.2.2.2.2.1, hW.2.2.2.2.2, B.notSynchronized⟩, ⟨Nat.le_refl _, Nat.le_refl _⟩, rfl, rfl, B.returns, (name_of_methodNamed B.named B.method).1⟩ hT (Nat.le_refl _) (Nat.le_refl _) s.heap [] ls hW.1 hW.2.1 va_S.rf hl
  rw [show σ.2.1 - q_gn (p, e, s, m, (av.map q_v).toArray, below, meth, c, (headSpec (Cond.code y cc nL rt9 :: q_Wt) { frames := fr, cells := τ.2.1 - σ.2.1, slots := τ.2.2 - σ.2.2, locals := lo }).room, σ.2.1, σ.2.2) = 0 from Nat.sub_self _, show σ.2.2 - q_gl (p, e, s, m, (av.map q_v).toArray, below, meth, c, (headSpec (Cond.code y cc nL rt9 :: q_Wt) { frames := fr, cells := τ.2.1 - σ.2.1, slots := τ.2.2 - σ.2.2, locals := lo }).room, σ.2.1, σ.2.2) = 0 from Nat.sub_self _] at K
  exact K
end EnF
