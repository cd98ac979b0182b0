/-! ===== the world: what is fixed over the whole run, what holds of the tables and of the old cells ===== -/
/-- launch; classes' numbers and slots; array classes by their types' numbers; the first new address; text constants and their bytes; the lists' empty array; two statics of Throwable; the mirror of the class of arrays of objects; a static of Preconditions -/
abbrev q_Ev : Type := Launch × va_G × (Nat → ClassId) × Nat × (Nat → Nat) × (Nat → Nat) × Nat × Option Nat × Option Nat × Nat × Option Nat
abbrev q_eL (E : q_Ev) : Launch := E.1
abbrev q_eD (E : q_Ev) : va_G := E.2.1
abbrev q_eT (E : q_Ev) : Nat → ClassId := E.2.2.1
abbrev q_eB (E : q_Ev) : Nat := E.2.2.2.1
abbrev q_eK (E : q_Ev) : Nat → Nat := E.2.2.2.2.1
abbrev q_eV (E : q_Ev) : Nat → Nat := E.2.2.2.2.2.1
abbrev q_eE (E : q_Ev) : Nat := E.2.2.2.2.2.2.1
abbrev q_eU (E : q_Ev) : Option Nat := E.2.2.2.2.2.2.2.1
abbrev q_eS (E : q_Ev) : Option Nat := E.2.2.2.2.2.2.2.2.1
abbrev q_eM (E : q_Ev) : Nat := E.2.2.2.2.2.2.2.2.2.1
abbrev q_eF (E : q_Ev) : Option Nat := E.2.2.2.2.2.2.2.2.2.2
def q_A (E : q_Ev) : Nat → Prop := fun q => q_eB E ≤ q
abbrev q_tys (E : q_Ev) : List (ClassId × FieldType) := [(q_eT E 0, .byte), (q_eT E 1, .int), (q_eT E 2, .long), (q_eT E 3, .boolean), (q_eT E 4, .object "IsaForge$Instruction"), (q_eT E 5, .object "IsaForge$Kind"), (q_eT E 6, .object "IsaForge$Name"), (q_eT E 7, .object "java/lang/Object")]
def q_at (E : q_Ev) (a : Nat) (e : q_Cel) (H : Heap) : Prop := match e with
  | .inl (t, A) => (q_eB E ≤ a ∧ t < 8) ∧ H[a]? = some (vp_cell (q_eT E t) A)
  | .inr (.inl (ci, fs)) => q_eB E ≤ a ∧ ∃ r : vw_C, vwCl[ci]? = some r ∧ fs.length = r.2.2 ∧ t_OB a ((q_eD E).1 ci) r.2.2 ((q_eD E).2 ci) H (vp_V fs)
  | .inr (.inr (k, i)) => (k = 0 ∧ i < q_txN ∧ a = q_eK E i) ∨ (k = 1 ∧ i < q_txN ∧ a = q_eV E i) ∨ (k = 2 ∧ a = q_eE E)
def q_Ho (E : q_Ev) (M : q_Mem) (H : Heap) : Prop := ∀ (a : Nat) (e : q_Cel), M a = some e → q_at E a e H
/-- of the tables -/
def q_GV (E : q_Ev) (U : State) : Prop := (∀ w ∈ q_NW, va_Nw w U) ∧ (∀ q ∈ q_SR, vk_R q.1 q.2.1 q.2.2.1 (q_eK E q.2.2.2) U) ∧ (∀ C ∈ q_AO, va_AO C U) ∧ (∀ q ∈ q_NC, va_Nc q.1 q.2 U) ∧ va_Mi "[Ljava/lang/Object;" (q_eM E) U ∧ va_Dc U ∧ (∀ w ∈ q_CW, va_Nw w U) ∧ (q_eL E).stackTraces = false
/-- the lists' empty array: an array of objects, of no length -/
def q_Em (E : q_Ev) (U : State) (H : Heap) : Prop := ∃ cell : Cell, H[q_eE E]? = some cell ∧ U.isArrayOf cell (.object "java/lang/Object") ∧ cell.vm ≠ .unknown ∧ cell.slots.size = 0 ∧ ¬ q_A E (q_eE E)
theorem q_Em.moved {E : q_Ev} {u U : State} {H : Heap} (hvm : u.vm.Alike U.vm) (h : q_Em E u H) : q_Em E U H := by
  obtain ⟨cell, h1, h2, h3⟩ := h
  exact ⟨cell, h1, State.isArrayOf_alike hvm h2, h3⟩
theorem q_Em.kept {E : q_Ev} {U : State} {H H1 : Heap} (h : q_Em E U H) (hq : ∀ a : Nat, a < H.size → ¬ q_A E a → H1[a]? = H[a]?) : q_Em E U H1 := by
  obtain ⟨cell, h1, h2, h3, h4, h5⟩ := h
  exact ⟨cell, by rw [hq _ (Array.getElem?_eq_some_iff.mp h1).1 h5]; exact h1, h2, h3, h4, h5⟩
/-- of the old cells -/
def q_GH (E : q_Ev) (U : State) (H : Heap) : Prop := vk_S q_txN (q_tx.map List.length) q_tx (q_eK E) (q_eV E) (q_A E) U H ∧ va_Z "java/lang/String" "COMPACT_STRINGS" "Z" (.int 1) (q_A E) U H ∧ va_Z "java/util/ArrayList" "DEFAULTCAPACITY_EMPTY_ELEMENTDATA" "[Ljava/lang/Object;" (.ref (q_eE E)) (q_A E) U H ∧ vx_Zq Bundle.tN "UNASSIGNED_STACK" Bundle.steD (q_A E) U H ∧ vx_Zq Bundle.tN "SUPPRESSED_SENTINEL" Bundle.listD (q_A E) U H ∧ va_Z Bundle.tN "UNASSIGNED_STACK" Bundle.steD (va_rf (q_eU E)) (q_A E) U H ∧ va_Z Bundle.tN "SUPPRESSED_SENTINEL" Bundle.listD (va_rf (q_eS E)) (q_A E) U H ∧ q_Em E U H ∧ va_Z "jdk/internal/util/Preconditions" "SIOOBE_FORMATTER" "Ljava/util/function/BiFunction;" (va_rf (q_eF E)) (q_A E) U H
theorem q_GV.warm {E : q_Ev} {s U : State} (hW : s.WarmedH U.vm) (h : q_GV E s) : q_GV E U := by
  obtain ⟨h1, h2, h3, h4, h5, h6, h7, h8⟩ := h
  refine ⟨fun w hw => ?_, fun q hq => vk_R.warm hW (h2 q hq), fun C hC => va_AO.moved hW.alike (h3 C hC), fun q hq => va_Nc.moved hW.alike (h4 q hq), va_Mi.moved hW.alike h5, va_Dc.moved hW.alike h6, fun w hw => ?_, h8⟩
  · obtain ⟨a, i, y, b, rfl⟩ := q_NW_is w hw
    exact va_Nw.warmM hW (h1 _ hw)
  · rcases q_CW_is w hw with ⟨a, b, rfl⟩ | ⟨y, rfl⟩
    · exact va_Nw.warmC hW (h7 _ hw)
    · exact va_Nw.warmD hW (h7 _ hw)
theorem q_GV.same {E : q_Ev} {s U : State} (hv : s.vm = U.vm) (h : q_GV E s) : q_GV E U := by
  obtain ⟨h1, h2, h3, h4, h5, h6, h7, h8⟩ := h
  have ha : s.vm.Alike U.vm := by rw [hv]; exact Vm.Alike.refl U.vm
  refine ⟨fun w hw => ?_, fun q hq => vk_R.same hv.symm (h2 q hq), fun C hC => va_AO.moved ha (h3 C hC), fun q hq => va_Nc.moved ha (h4 q hq), va_Mi.moved ha h5, va_Dc.moved ha h6, fun w hw => ?_, h8⟩
  · obtain ⟨a, i, y, b, rfl⟩ := q_NW_is w hw
    exact va_Nw.same rfl hv (h1 _ hw)
  · rcases q_CW_is w hw with ⟨a, b, rfl⟩ | ⟨y, rfl⟩
    · exact va_Nw.same rfl hv (h7 _ hw)
    · exact va_Nw.same rfl hv (h7 _ hw)
theorem q_GH.moved {E : q_Ev} {u U : State} {H : Heap} (hvm : u.vm.Alike U.vm) (h : q_GH E u H) : q_GH E U H :=
  ⟨vk_S.moved hvm h.1, va_Z.moved hvm h.2.1, va_Z.moved hvm h.2.2.1, vx_Zq.moved hvm h.2.2.2.1, vx_Zq.moved hvm h.2.2.2.2.1, va_Z.moved hvm h.2.2.2.2.2.1, va_Z.moved hvm h.2.2.2.2.2.2.1, q_Em.moved hvm h.2.2.2.2.2.2.2.1, va_Z.moved hvm h.2.2.2.2.2.2.2.2⟩
theorem q_GH.kept {E : q_Ev} {U : State} {H H1 : Heap} (h : q_GH E U H) (hq : ∀ a : Nat, a < H.size → ¬ q_A E a → H1[a]? = H[a]?) : q_GH E U H1 :=
  ⟨vk_S.kept h.1 hq, va_Z.kept h.2.1 hq, va_Z.kept h.2.2.1 hq, vx_Zq.kept h.2.2.2.1 hq, vx_Zq.kept h.2.2.2.2.1 hq, va_Z.kept h.2.2.2.2.2.1 hq, va_Z.kept h.2.2.2.2.2.2.1 hq, q_Em.kept h.2.2.2.2.2.2.2.1 hq, va_Z.kept h.2.2.2.2.2.2.2.2 hq⟩
/-- the world at a state -/
def q_Wd (E : q_Ev) (σ : q_St) (U : State) : Prop := U.heap.size = σ.2.1 ∧ q_Ho E σ.1 U.heap ∧ va_K (q_eD E) vwCl (q_tys E) U ∧ q_GV E U ∧ q_GH E U U.heap ∧ q_eB E ≤ U.heap.size
/-- values -/
abbrev q_TV : Type := Int32 ⊕ Int64 ⊕ Option Nat
abbrev q_I (x : Int32) : q_TV := .inl x
abbrev q_L (x : Int64) : q_TV := .inr (.inl x)
abbrev q_R (r : Option Nat) : q_TV := .inr (.inr r)
def q_v : q_TV → Value
  | .inl x => .int x
  | .inr (.inl x) => .long x
  | .inr (.inr r) => va_rf r
def q_2 : q_TV → Bool
  | .inr (.inl _) => true
  | _ => false
theorem q_rf_cat (r : Option Nat) : (va_rf r).category = 1 := by cases r <;> rfl
theorem q_cat (v : q_TV) : (q_v v).category = if q_2 v then 2 else 1 := by
  rcases v with x | x | r
  · rfl
  · rfl
  · exact q_rf_cat r
def q_ls (l : List (Nat × q_TV)) : List (Nat × Value) := l.map fun q => (q.1, q_v q.2)
theorem q_ls_at {l : List (Nat × q_TV)} {k i : Nat} {v : q_TV} (h : l[k]? = some (i, v)) : (q_ls l)[k]? = some (i, q_v v) := by simp [q_ls, h]
def q_del (i : Nat) (l : List (Nat × q_TV)) : List (Nat × q_TV) := l.filter fun q => !(q.1 == i) && !(q.1 + 1 == i && q_2 q.2)
def q_del2 (i : Nat) (l : List (Nat × q_TV)) : List (Nat × q_TV) := l.filter fun q => !(q.1 == i) && (!(q.1 == i + 1) && !(q.1 + 1 == i && q_2 q.2))
theorem q_cat_b (v : q_TV) : ((q_v v).category == 2) = q_2 v := by rw [q_cat]; cases q_2 v <;> rfl
theorem q_del_ls (i : Nat) (l : List (Nat × q_TV)) : (q_ls l).filter (fun q => !(q.1 == i) && !(q.1 + 1 == i && q.2.category == 2)) = q_ls (q_del i l) := by
  simp only [q_ls, q_del, List.filter_map, Function.comp_def, q_cat_b]
theorem q_del2_ls (i : Nat) (l : List (Nat × q_TV)) : (q_ls l).filter (fun q => !(q.1 == i) && (!(q.1 == i + 1) && !(q.1 + 1 == i && q.2.category == 2))) = q_ls (q_del2 i l) := by
  simp only [q_ls, q_del2, List.filter_map, Function.comp_def, q_cat_b]
/-- the run of a method: program, environment, state at its entry, method, arguments, frames below, its record, its code, its room, cells and slots made before -/
abbrev q_Gm : Type := Program × Env × State × MethodId × Array Value × List Frame × Method × Code × Room × Nat × Nat
abbrev q_gp (Γ : q_Gm) : Program := Γ.1
abbrev q_ge (Γ : q_Gm) : Env := Γ.2.1
abbrev q_gs (Γ : q_Gm) : State := Γ.2.2.1
abbrev q_gm (Γ : q_Gm) : MethodId := Γ.2.2.2.1
abbrev q_ga (Γ : q_Gm) : Array Value := Γ.2.2.2.2.1
abbrev q_gb (Γ : q_Gm) : List Frame := Γ.2.2.2.2.2.1
abbrev q_gh (Γ : q_Gm) : Method := Γ.2.2.2.2.2.2.1
abbrev q_gc (Γ : q_Gm) : Code := Γ.2.2.2.2.2.2.2.1
abbrev q_gR (Γ : q_Gm) : Room := Γ.2.2.2.2.2.2.2.2.1
abbrev q_gn (Γ : q_Gm) : Nat := Γ.2.2.2.2.2.2.2.2.2.1
abbrev q_gl (Γ : q_Gm) : Nat := Γ.2.2.2.2.2.2.2.2.2.2
/-- from the point pc with these locals and this operand stack, and the memory σ, the run comes to Q -/
def q_W (E : q_Ev) (Γ : q_Gm) (Q : State → Prop) (nL : Nat) (σ : q_St) (pc : Nat) (l : List (Nat × q_TV)) (st : List q_TV) : Prop :=
  q_gn Γ ≤ σ.2.1 → q_gl Γ ≤ σ.2.2 → ∀ (H : Heap) (locs : List Loc) (ls : Array Slot), H.size = σ.2.1 → q_Ho E σ.1 H → va_S (q_A E) (q_gs Γ).heap H locs → lv_has ls nL (q_ls l) →
    W (q_gp Γ) (q_eL E) (q_ge Γ) (q_gR Γ) (q_gs Γ) (q_gm Γ) (q_ga Γ) (q_gb Γ) (q_gh Γ) (q_gc Γ) H locs (σ.2.1 - q_gn Γ) (σ.2.2 - q_gl Γ) Q (F0 (q_gm Γ) pc ls (st.map q_v))
/-- what a method's body may use -/
def q_C (E : q_Ev) (Γ : q_Gm) (cc : ByteArray) (own : String) (nL : Nat) : Prop :=
  (q_gp Γ).tables.exec = Jvm.exec ∧ (q_gc Γ).code = cc ∧ (q_gc Γ).maxLocals = nL ∧ (q_gs Γ).vm.findClass own = some (q_gm Γ).cls ∧ (∀ w ∈ q_Wt, w.before (q_ga Γ) (q_gs Γ) = true) ∧
  va_K (q_eD E) vwCl (q_tys E) (q_gs Γ) ∧ q_GV E (q_gs Γ) ∧ q_GH E (q_gs Γ) (q_gs Γ).heap ∧ q_eB E ≤ (q_gs Γ).heap.size ∧ (q_gh Γ).locks = false
