/-! THE CLAIM OUT OF ONE WALK OF THE LAW'S BODY. Your part is whole_start (and what it stands on); all else here is the same for every law, but numbers. -/
def R_law : String := "IsaForgeLaw"
def lw_P (b : Addr) (xs : List Int32) (args : Array Value) (s : State) : Prop := args = #[.ref b] ∧ s.IntsAt b xs ∧ xs.length ≤ 384 ∧ (Jvm.Cond.and given_1 narrow_1).before args s = true
def lw_Q (_ : Array Value) (s : State) (o : Outcome) (t : State) : Prop := o = .returned (some (.int 1)) ∧ Framed s o t [] 600128 7301098
def lw_Z (below : List Frame) (a : Array Value) (s : State) : State → Prop := fun t => ∃ o, t.status = .running ∧ Ended t below o ∧ lw_Q a s o t
/-- the law's own end, with 1 on the stack, nothing written that was there before, its room as the claim has it -/
theorem lw_ret {p : Program} {l : Launch} {e : Env} {s : State} {m : MethodId} {below : List Frame} {meth : Method} {c : Code} {b : Nat} (hx : p.tables.exec = Jvm.exec) (hb : c.code = code) (hr : meth.sig.returnType = ret) (hlocks : meth.locks = false) {pc : Nat} {H : Heap} {ls : Array Slot} (hdg : decode code pc = .ok (.ireturn, 1)) : W p l e room_1 s m #[Value.ref b] below meth c H [] 600128 7301098 (lw_Z below #[Value.ref b] s) (F0 m pc ls [.int 1]) := by
  intro T hT X
  obtain ⟨fs, hret, hrun, hended, hW, hframe⟩ := X.leave (v := some (.int 1)) (hlocks := hlocks) (fun h => by rw [hr] at h; cases h)
  have hmeth' : T.vm.method? m = some meth := X.method'
  refine ⟨T.setFrames fs, ?_, .returned (some (.int 1)), hrun, hended, rfl, ⟨_, rfl⟩, hW, hframe⟩
  jvm_step X.here [X.here.top, hx, hb, hdg, hmeth', hr, ret, narrow_b1]
  (try refine ⟨rfl, ?_⟩); (try refine ⟨rfl, ?_⟩)
  first | (intro acts; rw [hret _ acts rfl rfl rfl]) | rw [hret _ _ rfl rfl rfl]
  exact Steps.refl _
/-- what holds at the law's entry: the machine, the code, the tables' words (any of lw_tbl by 'hts w (by decide +kernel)'), the script of L ints xs at the cell b, what the Statement gives of the start (any of its parts by flat_of_before) -/
def lw_At (p : Program) (s : State) (m : MethodId) (meth : Method) (c : Code) (b L : Nat) (xs : Nat → Int32) : Prop :=
  p.tables.exec = Jvm.exec ∧ c.code = code ∧ meth.sig.returnType = ret ∧ c.maxLocals = 8 ∧ s.vm.findClass R_law = some m.cls ∧ (∀ w ∈ lw_tbl, w.before #[Value.ref b] s = true) ∧ va_X b L xs s s.heap ∧ b < s.heap.size ∧ meth.locks = false ∧ (Jvm.Cond.and given_1 narrow_1).before #[Value.ref b] s = true
/-! ===== rows for the law's own body ===== -/
section QLA
variable {E : q_Ev} {Γ : q_Gm} {Q : State → Prop} {nL : Nat} {σ : q_St} {pc : Nat} {l : List (Nat × q_TV)} {stk st As : List q_TV} {cc : ByteArray} {own : String}
variable {α β : Type} {w : (β ⊕ q_Exn) × q_St} {g : α → Option Value} {gB : β → Option Value} {ps : α → List q_TV} {f : q_X α} {k : α → q_X β} {y : MethodName} {ix mL n fr1 lo1 : Nat} {bytes : ByteArray} {rt9 : Option FieldType} {r : Option Nat}
/-- the law's own frame: the script, that it must end with 1, its room -/
def q_LX (E : q_Ev) (Γ : q_Gm) (b L : Nat) (xs : Nat → Int32) (w : (Int32 ⊕ q_Exn) × q_St) : Prop := va_X b L xs (q_gs Γ) (q_gs Γ).heap ∧ b < (q_gs Γ).heap.size ∧ q_eB E = (q_gs Γ).heap.size ∧ w.1 = .inl 1 ∧ q_gR Γ = room_1 ∧ q_ga Γ = #[Value.ref b]
def q_LZ (Γ : q_Gm) : State → Prop := lw_Z (q_gb Γ) (q_ga Γ) (q_gs Γ)
theorem q_slen {b L : Nat} {xs : Nat → Int32} {w : (Int32 ⊕ q_Exn) × q_St} (C : q_C E Γ cc own nL) (X : q_LX E Γ b L xs w) (hr : r = some b) (d : decode cc pc = .ok (.arraylength, 1)) (n : q_W E Γ Q nL σ (pc + 1) l (q_I (nI L) :: st)) : q_W E Γ Q nL σ pc l (q_R r :: st) := hr ▸ fun h1 h2 H locs ls hz hH hS hl =>
  va_slen C.1 C.2.1 X.1 X.2.1 (by show ¬ q_eB E ≤ b; rw [X.2.2.1]; exact Nat.not_le.mpr X.2.1) hS d (n h1 h2 H locs ls hz hH hS hl)
theorem q_sld {b L : Nat} {xs : Nat → Int32} {w : (Int32 ⊕ q_Exn) × q_St} {i : Int32} (C : q_C E Γ cc own nL) (X : q_LX E Γ b L xs w) (hr : r = some b) (d : decode cc pc = .ok (.iaload, 1)) (hi : ¬ (i < 0 ∨ L ≤ i.toNatClampNeg)) (n : q_W E Γ Q nL σ (pc + 1) l (q_I (xs i.toNatClampNeg) :: st)) : q_W E Γ Q nL σ pc l (q_I i :: q_R r :: st) := hr ▸ fun h1 h2 H locs ls hz hH hS hl =>
  va_sld C.1 C.2.1 X.1 X.2.1 (by show ¬ q_eB E ≤ b; rw [X.2.2.1]; exact Nat.not_le.mpr X.2.1) hS hi d (n h1 h2 H locs ls hz hH hS hl)
theorem q_lawR {b L : Nat} {xs : Nat → Int32} {w : (Int32 ⊕ q_Exn) × q_St} {x : Int32} (C : q_C E Γ code own nL) (X : q_LX E Γ b L xs w) (hR : w.2.2.1 - q_gn Γ ≤ (q_gR Γ).cells ∧ w.2.2.2 - q_gl Γ ≤ (q_gR Γ).slots) (hr : (q_gh Γ).sig.returnType = ret) (d : decode code pc = .ok (.ireturn, 1)) (h : q_rz x σ = some w) : q_W E Γ (q_LZ Γ) nL σ pc l [q_I x] := by
  obtain ⟨-, h⟩ := q_gd_e h
  obtain ⟨r, τ⟩ := w
  obtain ⟨rfl, rfl⟩ := q_rt_e h
  obtain ⟨-, -, hB, hx, hR0, ha⟩ := X
  have hx1 : x = 1 := by cases hx; rfl
  subst hx1
  rw [hR0] at hR
  have hR1 : τ.2.1 - q_gn Γ ≤ 600128 := hR.1
  have hR2 : τ.2.2 - q_gl Γ ≤ 7301098 := hR.2
  intro h1 h2 H locs ls hz hH hS hl
  refine va_forget (fun q hq => ?_) ?_
  · have h9 : q_eB E ≤ q.base := hS.2.2 q hq
    rw [hB] at h9
    exact h9
  · refine W.widen (k := 600128) (n := 7301098) hR1 hR2 ?_
    unfold q_LZ
    rw [hR0, ha]
    exact lw_ret C.1 C.2.1 hr C.2.2.2.2.2.2.2.2.2 d
theorem q_callVn {ci : Nat} {r0 : vw_C} {kx : q_Exn → q_X β} (C : q_C E Γ cc own nL) (hR : w.2.2.1 - q_gn Γ ≤ (q_gR Γ).cells ∧ w.2.2.2 - q_gl Γ ≤ (q_gR Γ).slots) (hps : ∀ x, (g x).toList = (ps x).map q_v) (hM : q_ML own ix y (.code y bytes mL rt9) n) (hv : vwCl[ci]? = some r0 ∧ Cond.instanceMethod y ∈ q_Wt ∧ Cond.selects r0.1 y y ∈ q_Wt) (d : decode cc pc = .ok (.invokevirtual ix, 3)) (hn : As.length = n) (hstk : stk = As.reverse ++ q_R r :: st) (hst : (st.map fun v => if q_2 v then 2 else 1).sum ≤ 8) (hfl : fr1 + 1 ≤ (q_gR Γ).frames ∧ 8 + (mL + 11) + lo1 ≤ (q_gR Γ).locals)
    (hc : q_Ct E y (.code y bytes mL rt9) fr1 lo1 (q_R r :: As) g f) (mf : q_mo f) (mk : ∀ x, q_mo (k x)) (mx : ∀ x, q_mo (kx x)) (h : q_rd (q_is r ci) (fun _ => q_cc f k kx) σ = some w)
    (nx : ∀ x τ, k x τ = some w → q_W E Γ Q nL τ (pc + 3) l (ps x ++ st))
    (hx : ∀ x τ, kx x τ = some w → False) : q_W E Γ Q nL σ pc l stk := by
  subst hstk
  obtain ⟨u, hu, h9⟩ := q_rd_e h
  obtain ⟨b, fs, hr, hMb⟩ := q_is_e hu
  subst hr
  clear h
  obtain ⟨hM1, hM2, hM3, hM4, hM5⟩ := hM
  have hts := C.2.2.2.2.1
  have main : ∀ (r' : α ⊕ q_Exn) (τ : q_St), f σ = some (r', τ) → q_le τ w.2 → (∀ x, r' = .inl x → k x τ = some w) → (∀ x, r' = .inr x → kx x τ = some w) → q_W E Γ Q nL σ pc l (As.reverse ++ q_R (some b) :: st) := by
    intro r' τ hf m2 k1 k2 h1 h2 H locs ls hz hH hS hl
    have m1 := mf _ _ _ hf
    refine q_run (r := r') (τ := τ) m1 h1 h2 hS (rest := st.map q_v) (vx_runV (As := As.map q_v) ⟨C.1, C.2.1, C.2.2.1, C.2.2.2.1, hts⟩ (hc σ r' τ hf) ⟨⟨rfl, rfl, hfl.1, hfl.2, q_pay hts hM3, List.mem_cons_self, hts _ hM3, hts _ hM2, hM4, q_len9 hM5, hts _ hM1⟩, hts _ hv.2.1, hts _ hv.2.2⟩ ⟨q_Wd_cl, q_recv C hH hMb hv.1, fun U hU hW => ⟨rfl, q_Wd_of C hz hH hS hU hW⟩⟩ rfl (by rw [List.length_map]; exact hn) hl.1 (by simp [q_v, va_rf]) (lv_room (q_wt hst)) d (q_roomy hR h1 h2 m1 m2)) ?_ ?_
    · intro x hx H1 locs1 z1 o1 s1
      have e := nx x τ (k1 x hx) (Nat.le_trans h1 m1.1) (Nat.le_trans h2 m1.2) H1 locs1 ls z1 o1 s1 hl
      rw [List.map_append, ← hps] at e
      exact e
    · intro N q hq H1 locs1 ce z1 o1 s1 c1 c2 c3
      exact (hx _ _ (k2 _ hq)).elim
  rcases q_cc_e h9 with ⟨x, τ, hf, hk⟩ | ⟨x, τ, hf, hk⟩
  · exact main _ τ hf (by obtain ⟨w1, w2⟩ := w; exact mk x _ _ _ hk) (fun z hz => by cases hz; exact hk) (fun z hz => by cases hz)
  · exact main _ τ hf (by obtain ⟨w1, w2⟩ := w; exact mx x _ _ _ hk) (fun z hz => by cases hz) (fun z hz => by cases hz; exact hk)
theorem q_callVXn {hh : List (Nat × Nat × Nat × Nat)} {ci : Nat} {r0 : vw_C} {kx : q_Exn → q_X β} (C : q_C E Γ cc own nL) (hR : w.2.2.1 - q_gn Γ ≤ (q_gR Γ).cells ∧ w.2.2.2 - q_gl Γ ≤ (q_gR Γ).slots) (hps : ∀ x, (g x).toList = (ps x).map q_v) (hM : q_ML own ix y (.codeWith y bytes mL rt9 hh) n) (hv : vwCl[ci]? = some r0 ∧ Cond.instanceMethod y ∈ q_Wt ∧ Cond.selects r0.1 y y ∈ q_Wt) (d : decode cc pc = .ok (.invokevirtual ix, 3)) (hn : As.length = n) (hstk : stk = As.reverse ++ q_R r :: st) (hst : (st.map fun v => if q_2 v then 2 else 1).sum ≤ 8) (hfl : fr1 + 1 ≤ (q_gR Γ).frames ∧ 8 + (mL + 11) + lo1 ≤ (q_gR Γ).locals)
    (hc : q_Ct E y (.codeWith y bytes mL rt9 hh) fr1 lo1 (q_R r :: As) g f) (mf : q_mo f) (mk : ∀ x, q_mo (k x)) (mx : ∀ x, q_mo (kx x)) (h : q_rd (q_is r ci) (fun _ => q_cc f k kx) σ = some w)
    (nx : ∀ x τ, k x τ = some w → q_W E Γ Q nL τ (pc + 3) l (ps x ++ st))
    (hx : ∀ x τ, kx x τ = some w → False) : q_W E Γ Q nL σ pc l stk := by
  subst hstk
  obtain ⟨u, hu, h9⟩ := q_rd_e h
  obtain ⟨b, fs, hr, hMb⟩ := q_is_e hu
  subst hr
  clear h
  obtain ⟨hM1, hM2, hM3, hM4, hM5⟩ := hM
  have hts := C.2.2.2.2.1
  have main : ∀ (r' : α ⊕ q_Exn) (τ : q_St), f σ = some (r', τ) → q_le τ w.2 → (∀ x, r' = .inl x → k x τ = some w) → (∀ x, r' = .inr x → kx x τ = some w) → q_W E Γ Q nL σ pc l (As.reverse ++ q_R (some b) :: st) := by
    intro r' τ hf m2 k1 k2 h1 h2 H locs ls hz hH hS hl
    have m1 := mf _ _ _ hf
    refine q_run (r := r') (τ := τ) m1 h1 h2 hS (rest := st.map q_v) (vx_runVX (hh := hh) (As := As.map q_v) ⟨C.1, C.2.1, C.2.2.1, C.2.2.2.1, hts⟩ (hc σ r' τ hf) ⟨⟨rfl, rfl, hfl.1, hfl.2, q_pay hts hM3, List.mem_cons_self⟩, hts _ hM3, hts _ hM2, hM4, q_len9 hM5, hts _ hM1, hts _ hv.2.1, hts _ hv.2.2⟩ ⟨q_Wd_cl, q_recv C hH hMb hv.1, fun U hU hW => ⟨rfl, q_Wd_of C hz hH hS hU hW⟩⟩ rfl (by rw [List.length_map]; exact hn) hl.1 (by simp [q_v, va_rf]) (lv_room (q_wt hst)) d (q_roomy hR h1 h2 m1 m2)) ?_ ?_
    · intro x hx H1 locs1 z1 o1 s1
      have e := nx x τ (k1 x hx) (Nat.le_trans h1 m1.1) (Nat.le_trans h2 m1.2) H1 locs1 ls z1 o1 s1 hl
      rw [List.map_append, ← hps] at e
      exact e
    · intro N q hq H1 locs1 ce z1 o1 s1 c1 c2 c3
      exact (hx _ _ (k2 _ hq)).elim
  rcases q_cc_e h9 with ⟨x, τ, hf, hk⟩ | ⟨x, τ, hf, hk⟩
  · exact main _ τ hf (by obtain ⟨w1, w2⟩ := w; exact mk x _ _ _ hk) (fun z hz => by cases hz; exact hk) (fun z hz => by cases hz)
  · exact main _ τ hf (by obtain ⟨w1, w2⟩ := w; exact mx x _ _ _ hk) (fun z hz => by cases hz) (fun z hz => by cases hz; exact hk)
theorem q_callSXn {hh : List (Nat × Nat × Nat × Nat)} {kx : q_Exn → q_X β} (C : q_C E Γ cc own nL) (hR : w.2.2.1 - q_gn Γ ≤ (q_gR Γ).cells ∧ w.2.2.2 - q_gl Γ ≤ (q_gR Γ).slots) (hps : ∀ x, (g x).toList = (ps x).map q_v) (hM : q_ML own ix y (.codeWith y bytes mL rt9 hh) n) (hv : Cond.static y ∈ q_Wt) (d : decode cc pc = .ok (.invokestatic ix, 3)) (hn : As.length = n) (hstk : stk = As.reverse ++ st) (hst : (st.map fun v => if q_2 v then 2 else 1).sum ≤ 8) (hfl : fr1 + 1 ≤ (q_gR Γ).frames ∧ 8 + (mL + 11) + lo1 ≤ (q_gR Γ).locals)
    (hc : q_Ct E y (.codeWith y bytes mL rt9 hh) fr1 lo1 As g f) (mf : q_mo f) (mk : ∀ x, q_mo (k x)) (mx : ∀ x, q_mo (kx x)) (h : q_cc f k kx σ = some w)
    (nx : ∀ x τ, k x τ = some w → q_W E Γ Q nL τ (pc + 3) l (ps x ++ st))  (hx : ∀ x τ, kx x τ = some w → False) : q_W E Γ Q nL σ pc l stk := by
  subst hstk
  obtain ⟨hM1, hM2, hM3, hM4, hM5⟩ := hM
  have hts := C.2.2.2.2.1
  have main : ∀ (r' : α ⊕ q_Exn) (τ : q_St), f σ = some (r', τ) → q_le τ w.2 → (∀ x, r' = .inl x → k x τ = some w) → (∀ x, r' = .inr x → kx x τ = some w) → q_W E Γ Q nL σ pc l (As.reverse ++ st) := by
    intro r' τ hf m2 k1 k2 h1 h2 H locs ls hz hH hS hl
    have m1 := mf _ _ _ hf
    refine q_run (r := r') (τ := τ) m1 h1 h2 hS (rest := st.map q_v) (vx_runSX (hh := hh) (As := As.map q_v) ⟨C.1, C.2.1, C.2.2.1, C.2.2.2.1, hts⟩ (hc σ r' τ hf) ⟨⟨rfl, rfl, hfl.1, hfl.2, q_pay hts hM3, List.mem_cons_self⟩, hts _ hM3, hts _ hM2, hM4, q_len9 hM5, hts _ hM1, hts _ hv⟩ ⟨q_Wd_cl, fun U hU hW => ⟨rfl, q_Wd_of C hz hH hS hU hW⟩⟩ rfl (by rw [List.length_map]; exact hn) hl.1 (by simp) (lv_room (q_wt hst)) d (q_roomy hR h1 h2 m1 m2)) ?_ ?_
    · intro x hx H1 locs1 z1 o1 s1
      have e := nx x τ (k1 x hx) (Nat.le_trans h1 m1.1) (Nat.le_trans h2 m1.2) H1 locs1 ls z1 o1 s1 hl
      rw [List.map_append, ← hps] at e
      exact e
    · intro N q hq H1 locs1 ce z1 o1 s1 c1 c2 c3
      exact (hx _ _ (k2 _ hq)).elim
  rcases q_cc_e h with ⟨x, τ, hf, hk⟩ | ⟨x, τ, hf, hk⟩
  · exact main _ τ hf (by obtain ⟨w1, w2⟩ := w; exact mk x _ _ _ hk) (fun z hz => by cases hz; exact hk) (fun z hz => by cases hz)
  · exact main _ τ hf (by obtain ⟨w1, w2⟩ := w; exact mx x _ _ _ hk) (fun z hz => by cases hz) (fun z hz => by cases hz; exact hk)
end QLA
