/-! ===== rows: statics, text constants, copies, throws ===== -/
theorem q_sp_e {r : Option Nat} {kd i : Nat} {M : q_Mem} (h : q_sp r kd M = some i) : ∃ a, r = some a ∧ M a = some (.inr (.inr (kd, i))) := by
  unfold q_sp at h
  split at h
  · rename_i a
    split at h
    · rename_i k i' hM
      by_cases hk : k = kd
      · rw [if_pos hk] at h
        cases h
        exact ⟨a, rfl, by rw [hM, hk]⟩
      · rw [if_neg hk] at h; cases h
    · cases h
  · cases h
def q_lS (r : Option Nat) (j : Int32) (M : q_Mem) : Option Int32 := (q_sp r 1 M).bind fun i => if j < 0 ∨ (q_tx.getD i []).length ≤ j.toNatClampNeg then none else some ((q_tx.getD i []).getD j.toNatClampNeg 0)
/-- bytes from one array of ours to another -/
def q_cB (r0 : Option Nat) (sp : Int32) (r1 : Option Nat) (dp n : Int32) (M : q_Mem) : Option q_Mem := (q_ar r0 M).bind fun p => (q_ar r1 M).bind fun p' => match p, p' with
  | (_, t0, n0, .inl f), (a, t1, n1, .inl g) => if (t0 = 0 ∧ t1 = 0) ∧ (¬ sp < 0 ∧ ¬ dp < 0 ∧ ¬ n < 0 ∧ sp.toNatClampNeg + n.toNatClampNeg ≤ n0 ∧ dp.toNatClampNeg + n.toNatClampNeg ≤ n1) ∧ ∀ i, i < n.toNatClampNeg → (f (sp.toNatClampNeg + i)).toInt8.toInt32 = f (sp.toNatClampNeg + i) then some (q_up M a (.inl (0, n1, .inl (va_cpy f g sp.toNatClampNeg dp.toNatClampNeg n.toNatClampNeg)))) else none
  | _, _ => none
/-- references of lines (null or one) from one row of objects to another -/
def q_cA (r0 : Option Nat) (sp : Int32) (r1 : Option Nat) (dp n : Int32) (M : q_Mem) : Option q_Mem := (q_ar r0 M).bind fun p => (q_ar r1 M).bind fun p' => match p, p' with
  | (_, t0, n0, .inr (.inr (.inr (.inr f)))), (a, t1, n1, .inr (.inr (.inr (.inr g)))) => if (t0 = 7 ∧ t1 = 7) ∧ (¬ sp < 0 ∧ ¬ dp < 0 ∧ ¬ n < 0 ∧ sp.toNatClampNeg + n.toNatClampNeg ≤ n0 ∧ dp.toNatClampNeg + n.toNatClampNeg ≤ n1) ∧ ∀ i, i < n.toNatClampNeg → (f (sp.toNatClampNeg + i) = none ∨ (q_is (f (sp.toNatClampNeg + i)) 6 M).isSome = true) then some (q_up M a (.inl (7, n1, .inr (.inr (.inr (.inr (va_cpy f g sp.toNatClampNeg dp.toNatClampNeg n.toNatClampNeg))))))) else none
  | _, _ => none
def q_rc (x : Int32) : q_X Int32 := q_gd (¬ x < 0 ∧ x ≤ 65535) (q_rt x)
def q_rb (x : Int32) : q_X Int32 := q_gd (x = 0) (q_rt x)
theorem q_mo_rc {x : Int32} : q_mo (q_rc x) := q_mo_gd q_mo_rt
theorem q_mo_rb {x : Int32} : q_mo (q_rb x) := q_mo_gd q_mo_rt
section QRI
variable {E : q_Ev} {Γ : q_Gm} {Q : State → Prop} {nL : Nat} {σ : q_St} {pc : Nat} {l : List (Nat × q_TV)} {stk st As : List q_TV} {cc : ByteArray} {own : String}
variable {α β : Type} {w : (β ⊕ q_Exn) × q_St} {g : α → Option Value} {gB : β → Option Value} {ps : α → List q_TV} {f : q_X α} {k : α → q_X β} {y : MethodName} {ix mL n fr1 lo1 : Nat} {bytes : ByteArray} {rt9 : Option FieldType} {r : Option Nat}
theorem q_gets (C : q_C E Γ cc own nL) {Cn nm dd : String} {v : q_TV} (d : decode cc pc = .ok (.getstatic ix, 3)) (hl0 : Cond.fieldLink own ix Cn nm dd ∈ q_Wt) (hZ : va_Z Cn nm dd (q_v v) (q_A E) (q_gs Γ) (q_gs Γ).heap) (n : q_W E Γ Q nL σ (pc + 3) l (v :: st)) : q_W E Γ Q nL σ pc l st := fun h1 h2 H locs ls hz hH hS hl =>
  va_gets C.1 C.2.1 hZ hS C.2.2.2.1 (C.2.2.2.2.1 _ hl0) (fun _ h => h) d (n h1 h2 H locs ls hz hH hS hl)
theorem q_getsC (C : q_C E Γ cc own nL) (d : decode cc pc = .ok (.getstatic ix, 3)) (hl0 : Cond.fieldLink own ix "java/lang/String" "COMPACT_STRINGS" "Z" ∈ q_Wt) (n : q_W E Γ Q nL σ (pc + 3) l (q_I 1 :: st)) : q_W E Γ Q nL σ pc l st := q_gets (v := q_I 1) C d hl0 C.2.2.2.2.2.2.2.1.2.1 n
theorem q_getsD (C : q_C E Γ cc own nL) (d : decode cc pc = .ok (.getstatic ix, 3)) (hl0 : Cond.fieldLink own ix "java/util/ArrayList" "DEFAULTCAPACITY_EMPTY_ELEMENTDATA" "[Ljava/lang/Object;" ∈ q_Wt) (n : q_W E Γ Q nL σ (pc + 3) l (q_R (some (q_kap E 99)) :: st)) : q_W E Γ Q nL σ pc l st := q_gets (v := q_R (some (q_kap E 99))) C d hl0 C.2.2.2.2.2.2.2.1.2.2.1 n
theorem q_getsU (C : q_C E Γ cc own nL) (d : decode cc pc = .ok (.getstatic ix, 3)) (hl0 : Cond.fieldLink own ix Bundle.tN "UNASSIGNED_STACK" Bundle.steD ∈ q_Wt) (n : q_W E Γ Q nL σ (pc + 3) l (q_R (q_on (q_kap E 97)) :: st)) : q_W E Γ Q nL σ pc l st := q_gets (v := q_R (q_on (q_kap E 97))) C d hl0 (by rw [show q_on (q_kap E 97) = q_eU E from q_on9 _]; exact C.2.2.2.2.2.2.2.1.2.2.2.2.2.1) n
theorem q_getsS (C : q_C E Γ cc own nL) (d : decode cc pc = .ok (.getstatic ix, 3)) (hl0 : Cond.fieldLink own ix Bundle.tN "SUPPRESSED_SENTINEL" Bundle.listD ∈ q_Wt) (n : q_W E Γ Q nL σ (pc + 3) l (q_R (q_on (q_kap E 96)) :: st)) : q_W E Γ Q nL σ pc l st := q_gets (v := q_R (q_on (q_kap E 96))) C d hl0 (by rw [show q_on (q_kap E 96) = q_eS E from q_on9 _]; exact C.2.2.2.2.2.2.2.1.2.2.2.2.2.2.1) n
theorem q_getsF (C : q_C E Γ cc own nL) (d : decode cc pc = .ok (.getstatic ix, 3)) (hl0 : Cond.fieldLink own ix "jdk/internal/util/Preconditions" "SIOOBE_FORMATTER" "Ljava/util/function/BiFunction;" ∈ q_Wt) (n : q_W E Γ Q nL σ (pc + 3) l (q_R (q_on (q_kap E 95)) :: st)) : q_W E Γ Q nL σ pc l st := q_gets (v := q_R (q_on (q_kap E 95))) C d hl0 (by rw [show q_on (q_kap E 95) = q_eF E from q_on9 _]; exact C.2.2.2.2.2.2.2.1.2.2.2.2.2.2.2.2) n
theorem q_kapV {i : Nat} : q_kap E (200 + i) = q_eV E i := by
  unfold q_kap
  rw [if_neg (by omega), if_neg (by omega), if_neg (by omega), if_neg (by omega), if_neg (by omega), if_neg (by omega), Nat.add_sub_cancel_left]
theorem q_getSv {kk : Nat → q_X β} (C : q_C E Γ cc own nL) (d : decode cc pc = .ok (.getfield ix, 3)) (hl0 : Cond.fieldLink own ix "java/lang/String" "value" "[B" ∈ q_Wt) (h : q_rd (q_sp r 0) kk σ = some w) (n : ∀ i, kk i σ = some w → q_W E Γ Q nL σ (pc + 3) l (q_R (some (q_kap E (200 + i))) :: st)) : q_W E Γ Q nL σ pc l (q_R r :: st) := by
  obtain ⟨i, hx, h9⟩ := q_rd_e h
  clear h
  obtain ⟨a, rfl, hM⟩ := q_sp_e hx
  intro h1 h2 H locs ls hz hH hS hl
  rcases hH a _ hM with ⟨-, hi, rfl⟩ | ⟨e, -⟩ | ⟨e, -⟩
  · have n := n i h9 h1 h2 H locs ls hz hH hS hl
    rw [q_kapV] at n
    exact vk_getf C.1 C.2.1 (C.2.2.2.2.2.2.2.1.1.1 i hi).2.2.1 hS C.2.2.2.1 (C.2.2.2.2.1 _ hl0) (fun _ h => h) d n
  · cases e
  · cases e
theorem q_getSc {kk : Nat → q_X β} (C : q_C E Γ cc own nL) (d : decode cc pc = .ok (.getfield ix, 3)) (hl0 : Cond.fieldLink own ix "java/lang/String" "coder" "B" ∈ q_Wt) (h : q_rd (q_sp r 0) kk σ = some w) (n : ∀ i, kk i σ = some w → q_W E Γ Q nL σ (pc + 3) l (q_I 0 :: st)) : q_W E Γ Q nL σ pc l (q_R r :: st) := by
  obtain ⟨i, hx, h9⟩ := q_rd_e h
  clear h
  obtain ⟨a, rfl, hM⟩ := q_sp_e hx
  intro h1 h2 H locs ls hz hH hS hl
  rcases hH a _ hM with ⟨-, hi, rfl⟩ | ⟨e, -⟩ | ⟨e, -⟩
  · exact vk_getf C.1 C.2.1 (C.2.2.2.2.2.2.2.1.1.1 i hi).2.1 hS C.2.2.2.1 (C.2.2.2.2.1 _ hl0) (fun _ h => h) d (n i h9 h1 h2 H locs ls hz hH hS hl)
  · cases e
  · cases e
theorem q_txlen (i : Nat) : (q_tx.map List.length).getD i 0 = (q_tx.getD i []).length := by
  simp only [List.getD_eq_getElem?_getD, List.getElem?_map]
  cases q_tx[i]? <;> rfl
theorem q_lenS {kk : Nat → q_X β} (C : q_C E Γ cc own nL) (d : decode cc pc = .ok (.arraylength, 1)) (h : q_rd (q_sp r 1) kk σ = some w) (n : ∀ i, kk i σ = some w → q_W E Γ Q nL σ (pc + 1) l (q_I (nI (q_tx.getD i []).length) :: st)) : q_W E Γ Q nL σ pc l (q_R r :: st) := by
  obtain ⟨i, hx, h9⟩ := q_rd_e h
  clear h
  obtain ⟨a, rfl, hM⟩ := q_sp_e hx
  intro h1 h2 H locs ls hz hH hS hl
  rcases hH a _ hM with ⟨e, -⟩ | ⟨-, hi, rfl⟩ | ⟨e, -⟩
  · cases e
  · exact va_tlen C.1 C.2.1 (C.2.2.2.2.2.2.2.1.1.1 i hi).2.2.2 hS (by rw [q_txlen]; rfl) d (n i h9 h1 h2 H locs ls hz hH hS hl)
  · cases e
theorem q_ldS {kk : Int32 → q_X β} {j : Int32} (C : q_C E Γ cc own nL) (d : decode cc pc = .ok (.baload, 1)) (h : q_rd (q_lS r j) kk σ = some w) (n : ∀ x, kk x σ = some w → q_W E Γ Q nL σ (pc + 1) l (q_I x :: st)) : q_W E Γ Q nL σ pc l (q_I j :: q_R r :: st) := by
  obtain ⟨x, hx, h9⟩ := q_rd_e h
  clear h
  simp only [q_lS, Option.bind_eq_some_iff] at hx
  obtain ⟨i, e1, e2⟩ := hx
  obtain ⟨a, rfl, hM⟩ := q_sp_e e1
  by_cases hc : j < 0 ∨ (q_tx.getD i []).length ≤ j.toNatClampNeg
  · rw [if_pos hc] at e2; cases e2
  · rw [if_neg hc] at e2
    cases e2
    intro h1 h2 H locs ls hz hH hS hl
    rcases hH a _ hM with ⟨e, -⟩ | ⟨-, hi, rfl⟩ | ⟨e, -⟩
    · cases e
    · exact va_tb C.1 C.2.1 (C.2.2.2.2.2.2.2.1.1.1 i hi).2.2.2 hS (by rw [q_txlen]; exact hc) rfl d (n _ h9 h1 h2 H locs ls hz hH hS hl)
    · cases e
theorem q_cret (C : q_C E Γ cc own nL) {x : Int32} {w : (Int32 ⊕ q_Exn) × q_St} (hr : (q_gh Γ).sig.returnType = some .char) (d : decode cc pc = .ok (.ireturn, 1)) (h : q_rc x σ = some w) : q_W E Γ (q_QF E Γ q_oI w) nL σ pc l [q_I x] := by
  obtain ⟨hx, h⟩ := q_gd_e h
  obtain ⟨r, τ⟩ := w
  obtain ⟨rfl, rfl⟩ := q_rt_e h
  obtain ⟨j, hj, rfl⟩ := nI_of2 (M := 65535) (n := 65535) (by decide) hx.1 hx.2
  intro h1 h2 H locs ls hz hH hS hl
  exact vx_ret (W.zret (v := nI j) (ty := .char) C.1 C.2.1 hr (pk_charN (by omega)).1 (fun t ht hW => ⟨⟨nI j, rfl, rfl⟩, q_Wd_of C hz hH hS ht hW, hS.F ht⟩) hS.2.2 d C.2.2.2.2.2.2.2.2.2)
theorem q_bret (C : q_C E Γ cc own nL) {x : Int32} {w : (Int32 ⊕ q_Exn) × q_St} (hr : (q_gh Γ).sig.returnType = some .byte) (d : decode cc pc = .ok (.ireturn, 1)) (h : q_rb x σ = some w) : q_W E Γ (q_QF E Γ q_oI w) nL σ pc l [q_I x] := by
  obtain ⟨rfl, h⟩ := q_gd_e h
  obtain ⟨r, τ⟩ := w
  obtain ⟨rfl, rfl⟩ := q_rt_e h
  intro h1 h2 H locs ls hz hH hS hl
  exact vx_ret (W.zret (v := 0) (ty := .byte) C.1 C.2.1 hr rfl (fun t ht hW => ⟨⟨0, rfl, rfl⟩, q_Wd_of C hz hH hS ht hW, hS.F ht⟩) hS.2.2 d C.2.2.2.2.2.2.2.2.2)
theorem q_callVS (C : q_C E Γ cc own nL) (hR : w.2.2.1 - q_gn Γ ≤ (q_gR Γ).cells ∧ w.2.2.2 - q_gl Γ ≤ (q_gR Γ).slots) (hT : q_nT Γ) (hps : ∀ x, (g x).toList = (ps x).map q_v) (hM : q_ML own ix y (.code y bytes mL rt9) n) (hv : Cond.instanceMethod y ∈ q_Wt ∧ Cond.selects "java/lang/String" y y ∈ q_Wt) (d : decode cc pc = .ok (.invokevirtual ix, 3)) (hn : As.length = n) (hstk : stk = As.reverse ++ q_R r :: st) (hst : (st.map fun v => if q_2 v then 2 else 1).sum ≤ 8) (hfl : fr1 + 1 ≤ (q_gR Γ).frames ∧ 8 + (mL + 11) + lo1 ≤ (q_gR Γ).locals)
    (hc : q_Ct E y (.code y bytes mL rt9) fr1 lo1 (q_R r :: As) g f) (mf : q_mo f) (mk : ∀ x, q_mo (k x)) (h : q_rd (q_sp r 0) (fun _ => q_ca f k) σ = some w)
    (nx : ∀ x τ, k x τ = some w → q_W E Γ (q_QF E Γ gB w) nL τ (pc + 3) l (ps x ++ st)) : q_W E Γ (q_QF E Γ gB w) nL σ pc l stk := by
  subst hstk
  obtain ⟨i, hu, h9⟩ := q_rd_e h
  obtain ⟨b, hr, hMb⟩ := q_sp_e hu
  subst hr
  clear h
  obtain ⟨hM1, hM2, hM3, hM4, hM5⟩ := hM
  have hts := C.2.2.2.2.1
  have main : ∀ (r' : α ⊕ q_Exn) (τ : q_St), f σ = some (r', τ) → q_le τ w.2 → (∀ x, r' = .inl x → k x τ = some w) → (∀ x, r' = .inr x → w = (.inr x, τ)) → q_W E Γ (q_QF E Γ gB w) nL σ pc l (As.reverse ++ q_R (some b) :: st) := by
    intro r' τ hf m2 k1 k2 h1 h2 H locs ls hz hH hS hl
    have m1 := mf _ _ _ hf
    have hrc : ∃ cell : Cell, H[b]? = some cell ∧ cell.vm.isStatics = false ∧ (q_gs Γ).vm.findClass "java/lang/String" = some cell.cls := by
      rcases hH b _ hMb with ⟨-, hi, rfl⟩ | ⟨e, -⟩ | ⟨e, -⟩
      · exact vk_recv C.2.2.2.2.2.2.2.1.1 hi hS
      · cases e
      · cases e
    refine q_run (r := r') (τ := τ) m1 h1 h2 hS (rest := st.map q_v) (vx_runV (As := As.map q_v) ⟨C.1, C.2.1, C.2.2.1, C.2.2.2.1, hts⟩ (hc σ r' τ hf) ⟨⟨rfl, rfl, hfl.1, hfl.2, q_pay hts hM3, List.mem_cons_self, hts _ hM3, hts _ hM2, hM4, q_len9 hM5, hts _ hM1⟩, hts _ hv.1, hts _ hv.2⟩ ⟨q_Wd_cl, hrc, fun U hU hW => ⟨rfl, q_Wd_of C hz hH hS hU hW⟩⟩ rfl (by rw [List.length_map]; exact hn) hl.1 (by simp [q_v, va_rf]) (lv_room (q_wt hst)) d (q_roomy hR h1 h2 m1 m2)) ?_ ?_
    · intro x hx H1 locs1 z1 o1 s1
      have e := nx x τ (k1 x hx) (Nat.le_trans h1 m1.1) (Nat.le_trans h2 m1.2) H1 locs1 ls z1 o1 s1 hl
      rw [List.map_append, ← hps] at e
      exact e
    · intro N q hx H1 locs1 ce z1 o1 s1 c1 c2 c3
      rw [k2 _ hx]
      exact q_leave C (fun x hx => (hT x hx).elim) z1 o1 s1 c1 c2 c3
  rcases q_ca_e h9 with ⟨x, τ, hf, hk⟩ | ⟨x, τ, hf, hw⟩
  · exact main _ τ hf (by obtain ⟨w1, w2⟩ := w; exact mk x _ _ _ hk) (fun z hz => by cases hz; exact hk) (fun z hz => by cases hz)
  · exact main _ τ hf (by rw [hw]; exact q_le_r τ) (fun z hz => by cases hz) (fun z hz => by cases hz; exact hw)
end QRI
