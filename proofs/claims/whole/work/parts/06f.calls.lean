/-! ===== rows: calls ===== -/
def q_psI (x : Int32) : List q_TV := [q_I x]
def q_psL (x : Int64) : List q_TV := [q_L x]
def q_psR (x : Option Nat) : List q_TV := [q_R x]
def q_psV (_ : Unit) : List q_TV := []
/-- what the tables say of a call: the entry, the callee's class and code, how many arguments -/
def q_ML (own : String) (ix : Nat) (y : MethodName) (w0 : Cond) (n : Nat) : Prop := Cond.methodLink own ix y ∈ q_Wt ∧ Cond.initialized y.cls ∈ q_Wt ∧ w0 ∈ q_Wt ∧ (y.cls ≠ "java/lang/invoke/MethodHandle" ∧ y.cls ≠ "java/lang/invoke/VarHandle") ∧ (parseMethodDescriptor y.desc).map (fun d => d.parameters.length) = some n
theorem q_pay {args : Array Value} {s : State} {w0 : Cond} (hts : ∀ w ∈ q_Wt, w.before args s = true) (h0 : w0 ∈ q_Wt) : ∀ w ∈ w0 :: q_Wt, ∀ (a' : Array Value) (U : State), s.WarmedH U.vm → w.before a' U = true :=
  pay_in hts (fun w h => by
    rcases List.mem_cons.mp h with rfl | h
    · exact q_good h0
    · exact q_good h)
theorem q_len9 {y : MethodName} {n : Nat} (h : (parseMethodDescriptor y.desc).map (fun d => d.parameters.length) = some n) : ∀ sig, parseMethodDescriptor y.desc = some sig → n = sig.parameters.length := fun sig hs => by
  rw [hs] at h
  exact (Option.some.inj h).symm
theorem q_Met {l : Launch} {y : MethodName} {ws : List Cond} {rm : Room} {Pc : Array Value → State → Prop} {Qc : Array Value → State → Outcome → State → Prop} {XC : String → Addr → State → State → Prop} {mc ms : Nat} {free : Addr → Prop} (h : vx_Met l y ws rm Pc Qc XC mc ms free) (hx : ∀ N q st t, ¬ XC N q st t) : Met l y ws rm Pc Qc mc ms free := by
  intro p e ha hc hk s m args below hf happ hP hK
  obtain ⟨n, o, h1, h2, h3, h4⟩ := h p e ha hc hk s m args below hf happ hP hK
  rcases h4 with h4 | ⟨q, -, N, ce, L, hX, -⟩
  · exact ⟨n, o, h1, h2, h3, h4⟩
  · exact absurd hX (hx N q _ _)
/-- no exception comes out -/
def q_ni {α : Type} (f : q_X α) : Prop := ∀ σ x τ, f σ ≠ some (.inr x, τ)
section QRF
variable {E : q_Ev} {Γ : q_Gm} {Q : State → Prop} {nL : Nat} {σ : q_St} {pc : Nat} {l : List (Nat × q_TV)} {stk st As : List q_TV} {cc : ByteArray} {own : String}
variable {α β : Type} {w : (β ⊕ q_Exn) × q_St} {g : α → Option Value} {gB : β → Option Value} {ps : α → List q_TV} {f : q_X α} {k : α → q_X β} {y : MethodName} {ix ci mL n fr1 lo1 : Nat} {bytes : ByteArray} {rt9 : Option FieldType} {r : Option Nat} {r0 : vw_C}
theorem q_roomy (hR : w.2.2.1 - q_gn Γ ≤ (q_gR Γ).cells ∧ w.2.2.2 - q_gl Γ ≤ (q_gR Γ).slots) {τ : q_St} (h1 : q_gn Γ ≤ σ.2.1) (h2 : q_gl Γ ≤ σ.2.2) (m1 : q_le σ τ) (m2 : q_le τ w.2) : σ.2.1 - q_gn Γ + (τ.2.1 - σ.2.1) ≤ (q_gR Γ).cells ∧ σ.2.2 - q_gl Γ + (τ.2.2 - σ.2.2) ≤ (q_gR Γ).slots := by
  obtain ⟨a1, a2⟩ := m1
  obtain ⟨b1, b2⟩ := m2
  omega
theorem q_callV (C : q_C E Γ cc own nL) (hR : w.2.2.1 - q_gn Γ ≤ (q_gR Γ).cells ∧ w.2.2.2 - q_gl Γ ≤ (q_gR Γ).slots) (hT : q_nT Γ) (hps : ∀ x, (g x).toList = (ps x).map q_v) (hM : q_ML own ix y (.code y bytes mL rt9) n) (hv : vwCl[ci]? = some r0 ∧ Cond.instanceMethod y ∈ q_Wt ∧ Cond.selects r0.1 y y ∈ q_Wt) (d : decode cc pc = .ok (.invokevirtual ix, 3)) (hn : As.length = n) (hstk : stk = As.reverse ++ q_R r :: st) (hst : (st.map fun v => if q_2 v then 2 else 1).sum ≤ 8) (hfl : fr1 + 1 ≤ (q_gR Γ).frames ∧ 8 + (mL + 11) + lo1 ≤ (q_gR Γ).locals)
    (hc : q_Ct E y (.code y bytes mL rt9) fr1 lo1 (q_R r :: As) g f) (mf : q_mo f) (mk : ∀ x, q_mo (k x)) (h : q_rd (q_is r ci) (fun _ => q_ca f k) σ = some w)
    (nx : ∀ x τ, k x τ = some w → q_W E Γ (q_QF E Γ gB w) nL τ (pc + 3) l (ps x ++ st)) : q_W E Γ (q_QF E Γ gB w) nL σ pc l stk := by
  subst hstk
  obtain ⟨u, hu, h9⟩ := q_rd_e h
  obtain ⟨b, fs, hr, hMb⟩ := q_is_e hu
  subst hr
  clear h
  obtain ⟨hM1, hM2, hM3, hM4, hM5⟩ := hM
  have hts := C.2.2.2.2.1
  have main : ∀ (r' : α ⊕ q_Exn) (τ : q_St), f σ = some (r', τ) → q_le τ w.2 → (∀ x, r' = .inl x → k x τ = some w) → (∀ x, r' = .inr x → w = (.inr x, τ)) → q_W E Γ (q_QF E Γ gB w) nL σ pc l (As.reverse ++ q_R (some b) :: st) := by
    intro r' τ hf m2 k1 k2 h1 h2 H locs ls hz hH hS hl
    have m1 := mf _ _ _ hf
    refine q_run (r := r') (τ := τ) m1 h1 h2 hS (rest := st.map q_v) (vx_runV (As := As.map q_v) ⟨C.1, C.2.1, C.2.2.1, C.2.2.2.1, hts⟩ (hc σ r' τ hf) ⟨⟨rfl, rfl, hfl.1, hfl.2, q_pay hts hM3, List.mem_cons_self, hts _ hM3, hts _ hM2, hM4, q_len9 hM5, hts _ hM1⟩, hts _ hv.2.1, hts _ hv.2.2⟩ ⟨q_Wd_cl, q_recv C hH hMb hv.1, fun U hU hW => ⟨rfl, q_Wd_of C hz hH hS hU hW⟩⟩ rfl (by rw [List.length_map]; exact hn) hl.1 (by simp [q_v, va_rf]) (lv_room (q_wt hst)) d (q_roomy hR h1 h2 m1 m2)) ?_ ?_
    · intro x hx H1 locs1 z1 o1 s1
      have e := nx x τ (k1 x hx) (Nat.le_trans h1 m1.1) (Nat.le_trans h2 m1.2) H1 locs1 ls z1 o1 s1 hl
      rw [List.map_append, ← hps] at e
      exact e
    · intro N q hx H1 locs1 ce z1 o1 s1 c1 c2 c3
      rw [k2 _ hx]
      exact q_leave C (fun x hx => (hT x hx).elim) z1 o1 s1 c1 c2 c3
  rcases q_ca_e h9 with ⟨x, τ, hf, hk⟩ | ⟨x, τ, hf, hw⟩
  · exact main _ τ hf (by obtain ⟨w1, w2⟩ := w; exact mk x _ _ _ hk) (fun z hz => by cases hz; exact hk) (fun z hz => by cases hz)
  · exact main _ τ hf (by rw [hw]; exact q_le_r τ) (fun z hz => by cases hz) (fun z hz => by cases hz; exact hw)
theorem q_callS (C : q_C E Γ cc own nL) (hR : w.2.2.1 - q_gn Γ ≤ (q_gR Γ).cells ∧ w.2.2.2 - q_gl Γ ≤ (q_gR Γ).slots) (hT : q_nT Γ) (hps : ∀ x, (g x).toList = (ps x).map q_v) (hM : q_ML own ix y (.code y bytes mL rt9) n) (hv : Cond.static y ∈ q_Wt) (d : decode cc pc = .ok (.invokestatic ix, 3)) (hn : As.length = n) (hstk : stk = As.reverse ++ st) (hst : (st.map fun v => if q_2 v then 2 else 1).sum ≤ 8) (hfl : fr1 + 1 ≤ (q_gR Γ).frames ∧ 8 + (mL + 11) + lo1 ≤ (q_gR Γ).locals)
    (hc : q_Ct E y (.code y bytes mL rt9) fr1 lo1 As g f) (mf : q_mo f) (mk : ∀ x, q_mo (k x)) (h : q_ca f k σ = some w)
    (nx : ∀ x τ, k x τ = some w → q_W E Γ (q_QF E Γ gB w) nL τ (pc + 3) l (ps x ++ st)) : q_W E Γ (q_QF E Γ gB w) nL σ pc l stk := by
  subst hstk
  obtain ⟨hM1, hM2, hM3, hM4, hM5⟩ := hM
  have hts := C.2.2.2.2.1
  have main : ∀ (r' : α ⊕ q_Exn) (τ : q_St), f σ = some (r', τ) → q_le τ w.2 → (∀ x, r' = .inl x → k x τ = some w) → (∀ x, r' = .inr x → w = (.inr x, τ)) → q_W E Γ (q_QF E Γ gB w) nL σ pc l (As.reverse ++ st) := by
    intro r' τ hf m2 k1 k2 h1 h2 H locs ls hz hH hS hl
    have m1 := mf _ _ _ hf
    refine q_run (r := r') (τ := τ) m1 h1 h2 hS (rest := st.map q_v) (vx_runS (As := As.map q_v) ⟨C.1, C.2.1, C.2.2.1, C.2.2.2.1, hts⟩ (hc σ r' τ hf) ⟨⟨rfl, rfl, hfl.1, hfl.2, q_pay hts hM3, List.mem_cons_self, hts _ hM3, hts _ hM2, hM4, q_len9 hM5, hts _ hM1⟩, hts _ hv⟩ ⟨q_Wd_cl, fun U hU hW => ⟨rfl, q_Wd_of C hz hH hS hU hW⟩⟩ rfl (by rw [List.length_map]; exact hn) hl.1 (by simp) (lv_room (q_wt hst)) d (q_roomy hR h1 h2 m1 m2)) ?_ ?_
    · intro x hx H1 locs1 z1 o1 s1
      have e := nx x τ (k1 x hx) (Nat.le_trans h1 m1.1) (Nat.le_trans h2 m1.2) H1 locs1 ls z1 o1 s1 hl
      rw [List.map_append, ← hps] at e
      exact e
    · intro N q hx H1 locs1 ce z1 o1 s1 c1 c2 c3
      rw [k2 _ hx]
      exact q_leave C (fun x hx => (hT x hx).elim) z1 o1 s1 c1 c2 c3
  rcases q_ca_e h with ⟨x, τ, hf, hk⟩ | ⟨x, τ, hf, hw⟩
  · exact main _ τ hf (by obtain ⟨w1, w2⟩ := w; exact mk x _ _ _ hk) (fun z hz => by cases hz; exact hk) (fun z hz => by cases hz)
  · exact main _ τ hf (by rw [hw]; exact q_le_r τ) (fun z hz => by cases hz) (fun z hz => by cases hz; exact hw)
end QRF
