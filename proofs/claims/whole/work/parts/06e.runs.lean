/-! ===== contracts, calls, ends ===== -/
theorem q_good {w : Cond} (h : w ∈ q_Wt) : w ∈ q_Wt ∧ ((w.onTables && w.keeps) = true ∨ ∃ ty, w = .arrayClass ty) := ⟨h, good_of_word (List.mem_filter.mp h).2⟩
/-- how a method ends: with a value (as g gives it), or with an exception -/
def q_Qo {α : Type} (E : q_Ev) (g : α → Option Value) (r : α ⊕ q_Exn) (τ : q_St) : Array Value → State → Outcome → State → Prop := fun _ st oc t => (∃ x, r = .inl x ∧ oc = .returned (g x)) ∧ q_Wd E τ t ∧ va_F (q_A E) st t
def q_Xo {α : Type} (E : q_Ev) (r : α ⊕ q_Exn) (τ : q_St) : String → Addr → State → State → Prop := fun N q st t => r = .inr (N, q) ∧ q_Wd E τ t ∧ va_F (q_A E) st t
def q_QF {α : Type} (E : q_Ev) (Γ : q_Gm) (g : α → Option Value) (w : (α ⊕ q_Exn) × q_St) : State → Prop := vx_MQ (q_gb Γ) (q_Qo E g w.1 w.2) (q_Xo E w.1 w.2) (q_ga Γ) (q_gs Γ) (w.2.2.1 - q_gn Γ) (w.2.2.2 - q_gl Γ) (q_A E)
def q_oI (x : Int32) : Option Value := some (.int x)
def q_oL (x : Int64) : Option Value := some (.long x)
def q_oR (x : Option Nat) : Option Value := some (va_rf x)
def q_oV (_ : Unit) : Option Value := none
/-- a contract: whenever the program f ends, the method ends so; w0 is the word of its code; frames and locals it needs beneath it -/
def q_Ct {α : Type} (E : q_Ev) (y : MethodName) (w0 : Cond) (fr lo : Nat) (av : List q_TV) (g : α → Option Value) (f : q_X α) : Prop := ∀ σ r τ, f σ = some (r, τ) →
  vx_Met (q_eL E) y (w0 :: q_Wt) { frames := fr, cells := τ.2.1 - σ.2.1, slots := τ.2.2 - σ.2.2, locals := lo } (va_Pc (av.map q_v) (q_Wd E σ)) (q_Qo E g r τ) (q_Xo E r τ) (τ.2.1 - σ.2.1) (τ.2.2 - σ.2.2) (q_A E)
/-- the frame of a method's body: rows of its room, its table, its return type, its name -/
def q_Bd {α : Type} (E : q_Ev) (Γ : q_Gm) (cc : ByteArray) (own : String) (nL fr lo : Nat) (ret9 : Option FieldType) (nm : String) (w : (α ⊕ q_Exn) × q_St) : Prop :=
  q_C E Γ cc own nL ∧ (w.2.2.1 - q_gn Γ ≤ (q_gR Γ).cells ∧ w.2.2.2 - q_gl Γ ≤ (q_gR Γ).slots) ∧ fr = (q_gR Γ).frames ∧ lo = (q_gR Γ).locals ∧ (q_gh Γ).sig.returnType = ret9 ∧ (q_gh Γ).name = nm
def q_nT (Γ : q_Gm) : Prop := ∀ x ∈ (q_gc Γ).exceptionTable.toList, False
theorem q_Wd_cl {E : q_Ev} {σ : q_St} {av : List Value} : FrameBlind (va_Pc av (q_Wd E σ)) := fun a U g mk h => by
  obtain ⟨h0, h1, h2, h3, h4, h5, h6⟩ := h
  exact ⟨h0, h1, h2, va_K.moved (u := U) (U := U.calling g mk a) (Vm.Alike.refl U.vm) h3, q_GV.same (s := U) (U := U.calling g mk a) rfl h4, q_GH.moved (u := U) (U := U.calling g mk a) (Vm.Alike.refl U.vm) h5, h6⟩
section QRE
variable {E : q_Ev} {Γ : q_Gm} {Q : State → Prop} {nL : Nat} {σ : q_St} {pc : Nat} {l : List (Nat × q_TV)} {st : List q_TV} {cc : ByteArray} {own : String}
variable {α β : Type} {w : (β ⊕ q_Exn) × q_St}
theorem q_Wd_of (C : q_C E Γ cc own nL) {H : Heap} {locs : List Loc} (hz : H.size = σ.2.1) (hH : q_Ho E σ.1 H) (hS : va_S (q_A E) (q_gs Γ).heap H locs) {t : State} (ht : t.heap = H) (hW : (q_gs Γ).WarmedH t.vm) : q_Wd E σ t := by
  obtain ⟨c1, c2, c3, c4, c5, c6, c7, c8, c9, c10⟩ := C
  exact ⟨by rw [ht]; exact hz, by rw [ht]; exact hH, va_K.moved hW.alike c6, q_GV.warm hW c7, by rw [ht]; exact (q_GH.moved hW.alike c8).kept hS.2.1, by rw [ht]; exact Nat.le_trans c9 hS.1⟩
theorem q_iret (C : q_C E Γ cc own nL) {x : Int32} {w : (Int32 ⊕ q_Exn) × q_St} (hr : (q_gh Γ).sig.returnType = some .int) (d : decode cc pc = .ok (.ireturn, 1)) (h : q_rt x σ = some w) : q_W E Γ (q_QF E Γ q_oI w) nL σ pc l [q_I x] := by
  obtain ⟨r, τ⟩ := w
  obtain ⟨rfl, rfl⟩ := q_rt_e h
  intro h1 h2 H locs ls hz hH hS hl
  exact vx_ret (W.iret (v := x) C.1 C.2.1 hr (fun t ht hW => ⟨⟨x, rfl, rfl⟩, q_Wd_of C hz hH hS ht hW, hS.F ht⟩) hS.2.2 d C.2.2.2.2.2.2.2.2.2)
/-- a boolean: 0 or 1 -/
def q_rz (x : Int32) : q_X Int32 := q_gd (x = 0 ∨ x = 1) (q_rt x)
theorem q_zret (C : q_C E Γ cc own nL) {x : Int32} {w : (Int32 ⊕ q_Exn) × q_St} (hr : (q_gh Γ).sig.returnType = some .boolean) (d : decode cc pc = .ok (.ireturn, 1)) (h : q_rz x σ = some w) : q_W E Γ (q_QF E Γ q_oI w) nL σ pc l [q_I x] := by
  obtain ⟨hx, h⟩ := q_gd_e h
  obtain ⟨r, τ⟩ := w
  obtain ⟨rfl, rfl⟩ := q_rt_e h
  intro h1 h2 H locs ls hz hH hS hl
  exact vx_ret (W.zret (v := x) (ty := .boolean) C.1 C.2.1 hr (by rcases hx with rfl | rfl <;> rfl) (fun t ht hW => ⟨⟨x, rfl, rfl⟩, q_Wd_of C hz hH hS ht hW, hS.F ht⟩) hS.2.2 d C.2.2.2.2.2.2.2.2.2)
theorem q_lret (C : q_C E Γ cc own nL) {x : Int64} {w : (Int64 ⊕ q_Exn) × q_St} (hr : (q_gh Γ).sig.returnType = some .long) (d : decode cc pc = .ok (.lreturn, 1)) (h : q_rt x σ = some w) : q_W E Γ (q_QF E Γ q_oL w) nL σ pc l [q_L x] := by
  obtain ⟨r, τ⟩ := w
  obtain ⟨rfl, rfl⟩ := q_rt_e h
  intro h1 h2 H locs ls hz hH hS hl
  exact vx_ret (W.lret (v := x) C.1 C.2.1 hr (fun t ht hW => ⟨⟨x, rfl, rfl⟩, q_Wd_of C hz hH hS ht hW, hS.F ht⟩) hS.2.2 d C.2.2.2.2.2.2.2.2.2)
theorem q_vret (C : q_C E Γ cc own nL) {w : (Unit ⊕ q_Exn) × q_St} (hr : (q_gh Γ).sig.returnType = none) (d : decode cc pc = .ok (.return_, 1)) (h : q_rt () σ = some w) : q_W E Γ (q_QF E Γ q_oV w) nL σ pc l [] := by
  obtain ⟨r, τ⟩ := w
  obtain ⟨rfl, rfl⟩ := q_rt_e h
  intro h1 h2 H locs ls hz hH hS hl
  exact vx_ret (W.vret C.1 C.2.1 hr (fun t ht hW => ⟨⟨(), rfl, rfl⟩, q_Wd_of C hz hH hS ht hW, hS.F ht⟩) hS.2.2 d C.2.2.2.2.2.2.2.2.2)
theorem q_aret (C : q_C E Γ cc own nL) {x : Option Nat} {rt9 : FieldType} {w : (Option Nat ⊕ q_Exn) × q_St} (hr : (q_gh Γ).sig.returnType = some rt9) (hrt : (∃ n, rt9 = .object n) ∨ ∃ t, rt9 = .array t) (d : decode cc pc = .ok (.areturn, 1)) (h : q_rt x σ = some w) : q_W E Γ (q_QF E Γ q_oR w) nL σ pc l [q_R x] := by
  obtain ⟨r, τ⟩ := w
  obtain ⟨rfl, rfl⟩ := q_rt_e h
  intro h1 h2 H locs ls hz hH hS hl
  exact vx_ret (W.aret (v := va_rf x) C.1 C.2.1 hr hrt (va_rf_or x) (fun t ht hW => ⟨⟨x, rfl, rfl⟩, q_Wd_of C hz hH hS ht hW, hS.F ht⟩) hS.2.2 d C.2.2.2.2.2.2.2.2.2)
/-- behind a call -/
theorem q_run {g : α → Option Value} {r : α ⊕ q_Exn} {τ : q_St} {a : Array Value} {H : Heap} {locs : List Loc} {ls : Array Slot} {st0 rest : List Value} (hm : q_le σ τ) (h1 : q_gn Γ ≤ σ.2.1) (h2 : q_gl Γ ≤ σ.2.2) (hS : va_S (q_A E) (q_gs Γ).heap H locs)
    (hr : vx_Run (q_gp Γ) (q_eL E) (q_ge Γ) (q_gR Γ) (q_gs Γ) (q_gm Γ) (q_ga Γ) (q_gb Γ) (q_gh Γ) (q_gc Γ) H locs (σ.2.1 - q_gn Γ) (σ.2.2 - q_gl Γ) (τ.2.1 - σ.2.1) (τ.2.2 - σ.2.2) (F0 (q_gm Γ) pc ls st0) rest (q_Qo E g r τ a) (q_Xo E r τ) (q_A E))
    (kk : ∀ x, r = .inl x → ∀ (H1 : Heap) (locs1 : List Loc), H1.size = τ.2.1 → q_Ho E τ.1 H1 → va_S (q_A E) (q_gs Γ).heap H1 locs1 → W (q_gp Γ) (q_eL E) (q_ge Γ) (q_gR Γ) (q_gs Γ) (q_gm Γ) (q_ga Γ) (q_gb Γ) (q_gh Γ) (q_gc Γ) H1 locs1 (τ.2.1 - q_gn Γ) (τ.2.2 - q_gl Γ) Q (F0 (q_gm Γ) (pc + 3) ls ((g x).toList ++ rest)))
    (kx : ∀ N q, r = .inr (N, q) → ∀ (H1 : Heap) (locs1 : List Loc) (ce : Cell), H1.size = τ.2.1 → q_Ho E τ.1 H1 → va_S (q_A E) (q_gs Γ).heap H1 locs1 → H1[q]? = some ce → ce.vm = .none → (q_gs Γ).vm.findClass N = some ce.cls → vx_W (q_gp Γ) (q_eL E) (q_ge Γ) (q_gR Γ) (q_gs Γ) (q_gm Γ) (q_ga Γ) (q_gb Γ) (q_gh Γ) (q_gc Γ) H1 locs1 (τ.2.1 - q_gn Γ) (τ.2.2 - q_gl Γ) Q (F0 (q_gm Γ) pc ls rest) q) :
    W (q_gp Γ) (q_eL E) (q_ge Γ) (q_gR Γ) (q_gs Γ) (q_gm Γ) (q_ga Γ) (q_gb Γ) (q_gh Γ) (q_gc Γ) H locs (σ.2.1 - q_gn Γ) (σ.2.2 - q_gl Γ) Q (F0 (q_gm Γ) pc ls st0) := by
  obtain ⟨m1, m2⟩ := hm
  have a1 : σ.2.1 - q_gn Γ + (τ.2.1 - σ.2.1) = τ.2.1 - q_gn Γ := by omega
  have a2 : σ.2.2 - q_gl Γ + (τ.2.2 - σ.2.2) = τ.2.2 - q_gl Γ := by omega
  intro T hT X
  rcases hr T hT X with ⟨v, st₀, t, T', L, h0, X', hL, e1, e2, ⟨⟨x, hx, hv⟩, hWd, hF⟩, go⟩ | ⟨q, st₀, t, T', L, N, ce, h0, X', hL, e1, e2, ⟨hx, hWd, hF⟩, hce, hcv, hcl, go⟩
  · have ev : v = g x := Outcome.returned.inj hv
    subst ev
    obtain ⟨-, -, k3⟩ := vx_keep (A0 := q_A E) (A1 := q_A E) (free := q_A E) h0 e1 hS (fun _ _ h => h) (fun _ h => h) hL hF
    rw [a1, a2] at X'
    obtain ⟨t2, b1, b2⟩ := kk x hx T'.heap (locs ++ L) (by rw [e1]; exact hWd.1) (by rw [e1]; exact hWd.2.1) k3 T' rfl X'
    exact ⟨t2, go t2 b1, b2⟩
  · obtain ⟨-, -, k3⟩ := vx_keep (A0 := q_A E) (A1 := q_A E) (free := q_A E) h0 e1 hS (fun _ _ h => h) (fun _ h => h) hL hF
    rw [a1, a2] at X'
    obtain ⟨t2, b1, b2⟩ := kx N q hx T'.heap (locs ++ L) ce (by rw [e1]; exact hWd.1) (by rw [e1]; exact hWd.2.1) k3 (by rw [e1]; exact hce) hcv hcl T' rfl X'
    exact ⟨t2, go.trans b1, b2⟩
/-- an exception that isn't caught here leaves the method -/
theorem q_leave {α : Type} {g : α → Option Value} {N : String} {q : Nat} (C : q_C E Γ cc own nL) (hout : ∀ x ∈ (q_gc Γ).exceptionTable.toList, covers x pc = false) {H1 : Heap} {locs1 : List Loc} {ce : Cell} {ls : Array Slot} {rest : List Value} (hz : H1.size = σ.2.1) (hH : q_Ho E σ.1 H1) (hS : va_S (q_A E) (q_gs Γ).heap H1 locs1) (hce : H1[q]? = some ce) (hv : ce.vm = .none) (hcl : (q_gs Γ).vm.findClass N = some ce.cls) :
    vx_W (q_gp Γ) (q_eL E) (q_ge Γ) (q_gR Γ) (q_gs Γ) (q_gm Γ) (q_ga Γ) (q_gb Γ) (q_gh Γ) (q_gc Γ) H1 locs1 (σ.2.1 - q_gn Γ) (σ.2.2 - q_gl Γ) (q_QF E Γ g ((.inr (N, q), σ) : (α ⊕ q_Exn) × q_St)) (F0 (q_gm Γ) pc ls rest) q :=
  vx_out hout C.2.2.2.2.2.2.2.2.2 hce hv hcl (fun t ht hW => ⟨rfl, q_Wd_of C hz hH hS ht hW, hS.F ht⟩) hS.2.2 (Nat.le_refl _) (Nat.le_refl _)
theorem q_wt {st : List q_TV} (h : (st.map fun v => if q_2 v then 2 else 1).sum ≤ 8) : ((st.map q_v).map fun v => v.category).sum ≤ 8 := by
  have e : ((st.map q_v).map fun v => v.category) = st.map fun v => if q_2 v then 2 else 1 := by
    rw [List.map_map]
    apply List.map_congr_left
    intro v _
    exact q_cat v
  rw [e]
  exact h
end QRE
