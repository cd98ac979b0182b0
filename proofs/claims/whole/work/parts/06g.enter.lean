/-! ===== rows: constructors, throws, a method's entry ===== -/
def q_args : Nat → List q_TV → List (Nat × q_TV)
  | _, [] => []
  | i, v :: vs => (i, v) :: q_args (if q_2 v then i + 2 else i + 1) vs
theorem q_args_ls : ∀ (i : Nat) (av : List q_TV), lv_args i (av.map q_v) = q_ls (q_args i av)
  | _, [] => rfl
  | i, v :: vs => by
    have e : (if (q_v v).category = 2 then i + 2 else i + 1) = if q_2 v then i + 2 else i + 1 := by
      rw [q_cat]
      cases q_2 v <;> rfl
    show (i, q_v v) :: lv_args (if (q_v v).category = 2 then i + 2 else i + 1) (vs.map q_v) = _
    rw [e, q_args_ls _ vs]
    rfl
theorem q_sl_len : ∀ (av : List q_TV), (lg_sl (av.map q_v)).length = (av.map fun v => if q_2 v then 2 else 1).sum
  | [] => rfl
  | v :: vs => by
    have ih := q_sl_len vs
    rcases v with x | x | r
    · simp only [lg_sl, List.map_cons, List.flatMap_cons, List.length_append, List.sum_cons] at ih ⊢
      rw [ih]; rfl
    · simp only [lg_sl, List.map_cons, List.flatMap_cons, List.length_append, List.sum_cons] at ih ⊢
      rw [ih]; rfl
    · simp only [lg_sl, List.map_cons, List.flatMap_cons, List.length_append, List.sum_cons] at ih ⊢
      rw [ih]
      cases r <;> rfl
section QRG
variable {E : q_Ev} {Γ : q_Gm} {Q : State → Prop} {nL : Nat} {σ : q_St} {pc : Nat} {l : List (Nat × q_TV)} {stk st As : List q_TV} {cc : ByteArray} {own : String}
variable {α β : Type} {w : (β ⊕ q_Exn) × q_St} {g : α → Option Value} {gB : β → Option Value} {f : q_X α} {y : MethodName} {ix mL n fr1 lo1 : Nat} {bytes : ByteArray} {rt9 : Option FieldType} {r : Option Nat}
/-- a method's contract out of a walk of its body -/
theorem q_enter {av : List q_TV} {fr lo : Nat} (hy : plainName y.cls = true) (hlen : (av.map fun v => if q_2 v then 2 else 1).sum ≤ nL)
    (body : ∀ (Γ : q_Gm) (σ : q_St) (w : (α ⊕ q_Exn) × q_St), f σ = some w → q_Bd E Γ cc y.cls nL fr lo rt9 y.name w → q_nT Γ → q_W E Γ (q_QF E Γ g w) nL σ 0 (q_args 0 av) []) : q_Ct E y (.code y cc nL rt9) fr lo av g f := by
  intro σ r τ hf
  refine vx_ofW (cc := cc) (maxL := nL) (ret := rt9) hy rfl ?_
  intro p e s m args below meth c s₁ B hml hT hv
  obtain ⟨rfl, hW⟩ := hv
  have hts := atoms_spec (ws := Cond.code y cc nL rt9 :: q_Wt) B.pre
  have hl := lv_entry (av.map q_v) (n := nL) (by rw [q_sl_len]; exact hlen)
  rw [lg_entry_eq]
  generalize (lg_sl (av.map q_v) ++ List.replicate (nL - (lg_sl (av.map q_v)).length) Slot.unset).toArray = ls at hl ⊢
  rw [q_args_ls] at hl
  have K := body (p, e, s, m, (av.map q_v).toArray, below, meth, c, (headSpec (Cond.code y cc nL rt9 :: q_Wt) { frames := fr, cells := τ.2.1 - σ.2.1, slots := τ.2.2 - σ.2.2, locals := lo }).room, σ.2.1, σ.2.2) σ (r, τ) hf
    ⟨⟨B.exec, B.bytes, hml, findClass_of_methodNamed B.named, fun w hw => hts w (List.mem_cons_of_mem _ hw), hW.2.2.1, hW.2.2.2.1, hW.2.2.2.2.1, hW.2.2.2.2.2, B.notSynchronized⟩, ⟨Nat.le_refl _, Nat.le_refl _⟩, rfl, rfl, B.returns, (name_of_methodNamed B.named B.method).1⟩ hT (Nat.le_refl _) (Nat.le_refl _) s.heap [] ls hW.1 hW.2.1 va_S.rf hl
  rw [show σ.2.1 - q_gn (p, e, s, m, (av.map q_v).toArray, below, meth, c, (headSpec (Cond.code y cc nL rt9 :: q_Wt) { frames := fr, cells := τ.2.1 - σ.2.1, slots := τ.2.2 - σ.2.2, locals := lo }).room, σ.2.1, σ.2.2) = 0 from Nat.sub_self _, show σ.2.2 - q_gl (p, e, s, m, (av.map q_v).toArray, below, meth, c, (headSpec (Cond.code y cc nL rt9 :: q_Wt) { frames := fr, cells := τ.2.1 - σ.2.1, slots := τ.2.2 - σ.2.2, locals := lo }).room, σ.2.1, σ.2.2) = 0 from Nat.sub_self _] at K
  exact K
theorem q_objI {k9 : q_X β} (C : q_C E Γ cc own nL) (d : decode cc pc = .ok (.invokespecial ix, 3)) (hw : Cond.methodLink own ix objectInit ∈ q_Wt ∧ Cond.instanceMethod objectInit ∈ q_Wt ∧ Cond.code objectInit ⟨#[0xb1]⟩ 1 none ∈ q_Wt) (hfl : 1 ≤ (q_gR Γ).frames ∧ 20 ≤ (q_gR Γ).locals) (hst : (st.map fun v => if q_2 v then 2 else 1).sum ≤ 8) (h : q_gd (¬ r = none) k9 σ = some w) (nx : k9 σ = some w → q_W E Γ Q nL σ (pc + 3) l st) : q_W E Γ Q nL σ pc l (q_R r :: st) := by
  obtain ⟨hr, h9⟩ := q_gd_e h
  clear h
  cases r with
  | none => exact absurd rfl hr
  | some b =>
    intro h1 h2 H locs ls hz hH hS hl
    have hts := C.2.2.2.2.1
    have n := nx h9 h1 h2 H locs ls hz hH hS hl
    have hs := q_wt hst
    refine W.objInit C.1 C.2.1 C.2.2.2.1 (hts _ hw.1) (hts _ hw.2.1) (hts _ hw.2.2) rfl (by rw [C.2.2.1]; exact hl.1) rfl d (by simpa using hfl.1) (by first | omega | (simp; omega) | (have := hfl.2; simp at hs ⊢; omega)) ?_
    exact n
theorem q_callI {k : α → q_X β} (C : q_C E Γ cc own nL) (hR : w.2.2.1 - q_gn Γ ≤ (q_gR Γ).cells ∧ w.2.2.2 - q_gl Γ ≤ (q_gR Γ).slots) (hg : ∀ x, g x = none) (hM : q_ML own ix y (.code y bytes mL none) n) (hv : y.name = "<init>" ∧ Cond.instanceMethod y ∈ q_Wt) (d : decode cc pc = .ok (.invokespecial ix, 3)) (hn : As.length = n) (hstk : stk = As.reverse ++ q_R r :: st) (hst : (st.map fun v => if q_2 v then 2 else 1).sum ≤ 8) (hfl : fr1 + 1 ≤ (q_gR Γ).frames ∧ 8 + (mL + 11) + lo1 ≤ (q_gR Γ).locals)
    (hc : q_Ct E y (.code y bytes mL none) fr1 lo1 (q_R r :: As) g f) (mf : q_mo f) (ni : q_ni f) (mk : ∀ x, q_mo (k x)) (h : q_gd (¬ r = none) (q_ca f k) σ = some w)
    (nx : ∀ x τ, k x τ = some w → q_W E Γ Q nL τ (pc + 3) l st) : q_W E Γ Q nL σ pc l stk := by
  subst hstk
  obtain ⟨hr, h9⟩ := q_gd_e h
  clear h
  cases r with
  | none => exact absurd rfl hr
  | some b =>
    obtain ⟨hM1, hM2, hM3, hM4, hM5⟩ := hM
    have hts := C.2.2.2.2.1
    rcases q_ca_e h9 with ⟨x, τ, hf, hk⟩ | ⟨x, τ, hf, hw⟩
    · intro h1 h2 H locs ls hz hH hS hl
      have m1 := mf _ _ _ hf
      have m2 : q_le τ w.2 := by obtain ⟨w1, w2⟩ := w; exact mk x _ _ _ hk
      obtain ⟨a1, a2⟩ := m1
      have b1 : σ.2.1 - q_gn Γ + (τ.2.1 - σ.2.1) = τ.2.1 - q_gn Γ := by omega
      have b2 : σ.2.2 - q_gl Γ + (τ.2.2 - σ.2.2) = τ.2.2 - q_gl Γ := by omega
      have hrun := va_runI (e := q_ge Γ) (below := q_gb Γ) (meth := q_gh Γ) (As := As.map q_v) (rest := st.map q_v) (b := b) (g := F0 (q_gm Γ) pc ls ((As.reverse ++ q_R (some b) :: st).map q_v)) (locs := locs) (cells := σ.2.1 - q_gn Γ) (slots := σ.2.2 - q_gl Γ) ⟨C.1, C.2.1, C.2.2.1, C.2.2.2.1, hts⟩ (q_Met (hc σ _ τ hf) (fun N q s t hX => by cases hX.1)) ⟨⟨rfl, rfl, hfl.1, hfl.2, q_pay hts hM3, List.mem_cons_self, hts _ hM3, hts _ hM2, hM4, q_len9 hM5, hts _ hM1⟩, hv.1, hts _ hv.2⟩ ⟨q_Wd_cl, fun U hU hW => ⟨rfl, q_Wd_of C hz hH hS hU hW⟩⟩ rfl (by rw [List.length_map]; exact hn) hl.1 (by simp [q_v, va_rf]) (lv_room (q_wt hst)) d (q_roomy hR h1 h2 ⟨a1, a2⟩ m2)
      intro T hT X
      obtain ⟨v, st₀, t, T', L, h0, X', hL, e1, e2, ⟨⟨x', hx', hv'⟩, hWd, hF⟩, go⟩ := hrun T hT X
      have ev : v = none := by rw [Outcome.returned.inj hv']; exact hg x'
      subst ev
      obtain ⟨-, -, k3⟩ := vx_keep (A0 := q_A E) (A1 := q_A E) (free := q_A E) h0 e1 hS (fun _ _ h => h) (fun _ h => h) hL hF
      rw [b1, b2] at X'
      obtain ⟨t2, c1, c2⟩ := nx x τ hk (Nat.le_trans h1 a1) (Nat.le_trans h2 a2) T'.heap (locs ++ L) ls (by rw [e1]; exact hWd.1) (by rw [e1]; exact hWd.2.1) k3 hl T' rfl X'
      exact ⟨t2, go t2 c1, c2⟩
    · exact absurd hf (ni _ _ _)
theorem q_callIN {k : α → q_X β} {host : String} (C : q_C E Γ cc own nL) (hR : w.2.2.1 - q_gn Γ ≤ (q_gR Γ).cells ∧ w.2.2.2 - q_gl Γ ≤ (q_gR Γ).slots) (hg : ∀ x, g x = none) (hM : Cond.methodLinkNest own ix y host ∈ q_NW ∧ Cond.initialized y.cls ∈ q_Wt ∧ Cond.code y bytes mL none ∈ q_Wt ∧ (y.cls ≠ "java/lang/invoke/MethodHandle" ∧ y.cls ≠ "java/lang/invoke/VarHandle") ∧ (parseMethodDescriptor y.desc).map (fun d => d.parameters.length) = some n) (hv : y.name = "<init>" ∧ Cond.instanceMethod y ∈ q_Wt) (d : decode cc pc = .ok (.invokespecial ix, 3)) (hn : As.length = n) (hstk : stk = As.reverse ++ q_R r :: st) (hst : (st.map fun v => if q_2 v then 2 else 1).sum ≤ 8) (hfl : fr1 + 1 ≤ (q_gR Γ).frames ∧ 8 + (mL + 11) + lo1 ≤ (q_gR Γ).locals)
    (hc : q_Ct E y (.code y bytes mL none) fr1 lo1 (q_R r :: As) g f) (mf : q_mo f) (ni : q_ni f) (mk : ∀ x, q_mo (k x)) (h : q_gd (¬ r = none) (q_ca f k) σ = some w)
    (nx : ∀ x τ, k x τ = some w → q_W E Γ Q nL τ (pc + 3) l st) : q_W E Γ Q nL σ pc l stk := by
  subst hstk
  obtain ⟨hr, h9⟩ := q_gd_e h
  clear h
  cases r with
  | none => exact absurd rfl hr
  | some b =>
    obtain ⟨hM1, hM2, hM3, hM4, hM5⟩ := hM
    have hts := C.2.2.2.2.1
    rcases q_ca_e h9 with ⟨x, τ, hf, hk⟩ | ⟨x, τ, hf, hw⟩
    · intro h1 h2 H locs ls hz hH hS hl
      have m1 := mf _ _ _ hf
      have m2 : q_le τ w.2 := by obtain ⟨w1, w2⟩ := w; exact mk x _ _ _ hk
      obtain ⟨a1, a2⟩ := m1
      have b1 : σ.2.1 - q_gn Γ + (τ.2.1 - σ.2.1) = τ.2.1 - q_gn Γ := by omega
      have b2 : σ.2.2 - q_gl Γ + (τ.2.2 - σ.2.2) = τ.2.2 - q_gl Γ := by omega
      have hrun := va_runIN (e := q_ge Γ) (below := q_gb Γ) (meth := q_gh Γ) (As := As.map q_v) (rest := st.map q_v) (b := b) (g := F0 (q_gm Γ) pc ls ((As.reverse ++ q_R (some b) :: st).map q_v)) (locs := locs) (cells := σ.2.1 - q_gn Γ) (slots := σ.2.2 - q_gl Γ) ⟨C.1, C.2.1, C.2.2.1, C.2.2.2.1, hts⟩ (q_Met (hc σ _ τ hf) (fun N q s t hX => by cases hX.1)) ⟨⟨⟨rfl, rfl, hfl.1, hfl.2, q_pay hts hM3, List.mem_cons_self⟩, hts _ hM3, hts _ hM2, hM4, q_len9 hM5, va_Nw.use rfl (C.2.2.2.2.2.2.1.1 _ hM1)⟩, hv.1, hts _ hv.2⟩ ⟨q_Wd_cl, fun U hU hW => ⟨rfl, q_Wd_of C hz hH hS hU hW⟩⟩ rfl (by rw [List.length_map]; exact hn) hl.1 (by simp [q_v, va_rf]) (lv_room (q_wt hst)) d (q_roomy hR h1 h2 ⟨a1, a2⟩ m2)
      intro T hT X
      obtain ⟨v, st₀, t, T', L, h0, X', hL, e1, e2, ⟨⟨x', hx', hv'⟩, hWd, hF⟩, go⟩ := hrun T hT X
      have ev : v = none := by rw [Outcome.returned.inj hv']; exact hg x'
      subst ev
      obtain ⟨-, -, k3⟩ := vx_keep (A0 := q_A E) (A1 := q_A E) (free := q_A E) h0 e1 hS (fun _ _ h => h) (fun _ h => h) hL hF
      rw [b1, b2] at X'
      obtain ⟨t2, c1, c2⟩ := nx x τ hk (Nat.le_trans h1 a1) (Nat.le_trans h2 a2) T'.heap (locs ++ L) ls (by rw [e1]; exact hWd.1) (by rw [e1]; exact hWd.2.1) k3 hl T' rfl X'
      exact ⟨t2, go t2 c1, c2⟩
    · exact absurd hf (ni _ _ _)
end QRG
