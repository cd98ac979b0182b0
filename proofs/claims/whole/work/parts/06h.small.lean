/-! ===== small rows for the printed walks ===== -/
def q_fu : Nat := 4000000
theorem q_nfO {c : String} {r : Option Nat} : narrow (.object c) (q_v (q_R r)) = q_v (q_R r) := by cases r <;> rfl
theorem q_nfO' {c : String} {r : Option Nat} : fits (.object c) (q_v (q_R r)) = true := by cases r <;> rfl
theorem q_nfA {t : FieldType} {r : Option Nat} : narrow (.array t) (q_v (q_R r)) = q_v (q_R r) := by cases r <;> rfl
theorem q_nfA' {t : FieldType} {r : Option Nat} : fits (.array t) (q_v (q_R r)) = true := by cases r <;> rfl
theorem q_ni_rt {α : Type} {a : α} : q_ni (q_rt a) := fun σ x τ h => by cases (q_rt_e h).1
theorem q_ni_rd {α β : Type} {g : q_Mem → Option α} {k : α → q_X β} (hk : ∀ a, q_ni (k a)) : q_ni (q_rd g k) := fun σ x τ h => by
  obtain ⟨a, -, h⟩ := q_rd_e h
  exact hk a σ x τ h
theorem q_ni_wr {β : Type} {g : q_Mem → Option q_Mem} {k : q_X β} (hk : q_ni k) : q_ni (q_wr g k) := fun σ x τ h => by
  obtain ⟨a, -, h⟩ := q_wr_e h
  exact hk (a, σ.2) x τ h
theorem q_ni_mk {β : Type} {e : q_Cel} {n : Nat} {k : Nat → q_X β} (hk : ∀ a, q_ni (k a)) : q_ni (q_mk e n k) := fun σ x τ h => hk _ _ x τ h
theorem q_ni_ca {α β : Type} {f : q_X α} {k : α → q_X β} (hf : q_ni f) (hk : ∀ a, q_ni (k a)) : q_ni (q_ca f k) := fun σ x τ h => by
  rcases q_ca_e h with ⟨a, τ1, h1, h2⟩ | ⟨z, τ1, h1, h2⟩
  · exact hk a _ _ _ h2
  · exact hf _ _ _ h1
theorem q_ni_br {β : Type} {c : Prop} [Decidable c] {a b : q_X β} (ha : q_ni a) (hb : q_ni b) : q_ni (q_br c a b) := fun σ x τ h => by
  by_cases hc : c
  · exact ha _ _ _ ((q_br_e h).1 hc)
  · exact hb _ _ _ ((q_br_e h).2 hc)
theorem q_ni_gd {β : Type} {c : Prop} [Decidable c] {a : q_X β} (ha : q_ni a) : q_ni (q_gd c a) := fun σ x τ h => ha _ _ _ (q_gd_e h).2
theorem q_mo_rz {x : Int32} : q_mo (q_rz x) := q_mo_gd q_mo_rt
theorem q_hpI : ∀ x, (q_oI x).toList = (q_psI x).map q_v := fun _ => rfl
theorem q_hpL : ∀ x, (q_oL x).toList = (q_psL x).map q_v := fun _ => rfl
theorem q_hpR : ∀ x, (q_oR x).toList = (q_psR x).map q_v := fun _ => rfl
theorem q_hpV : ∀ x, (q_oV x).toList = (q_psV x).map q_v := fun _ => rfl
theorem q_W.st {E : q_Ev} {Γ : q_Gm} {Q : State → Prop} {nL : Nat} {σ : q_St} {pc : Nat} {l : List (Nat × q_TV)} {st st' : List q_TV} (h : st = st') (n : q_W E Γ Q nL σ pc l st') : q_W E Γ Q nL σ pc l st := h ▸ n
theorem q_flo {Γ : q_Gm} {a b fr lo : Nat} (h1 : fr = (q_gR Γ).frames) (h2 : lo = (q_gR Γ).locals) (h3 : a ≤ fr) (h4 : b ≤ lo) : a ≤ (q_gR Γ).frames ∧ b ≤ (q_gR Γ).locals := ⟨h1 ▸ h3, h2 ▸ h4⟩
/-- text constants by their numbers, their bytes from 200 on; 99 is the lists' empty array, 98 the mirror; 97 and 96 the two statics, 0 for null -/
def q_on (n : Nat) : Option Nat := if n = 0 then none else some (n - 1)
def q_no9 (r : Option Nat) : Nat := match r with
  | none => 0
  | some a => a + 1
theorem q_on9 (r : Option Nat) : q_on (q_no9 r) = r := by cases r <;> rfl
def q_kap (E : q_Ev) : Nat → Nat := fun i => if i = 99 then q_eE E else if i = 98 then q_eM E else if i = 97 then q_no9 (q_eU E) else if i = 96 then q_no9 (q_eS E) else if i = 95 then q_no9 (q_eF E) else if i < 200 then q_eK E i else q_eV E (i - 200)
/-- the length of an array that is ours -/
def q_ln (r : Option Nat) (M : q_Mem) : Option Int32 := (q_ar r M).bind fun p => some (nI p.2.2.1)
theorem q_aln {E : q_Ev} {Γ : q_Gm} {Q : State → Prop} {nL : Nat} {σ : q_St} {pc : Nat} {l : List (Nat × q_TV)} {st : List q_TV} {cc : ByteArray} {own : String} {β : Type} {w : (β ⊕ q_Exn) × q_St} {kk : Int32 → q_X β} (C : q_C E Γ cc own nL) {r : Option Nat} (d : decode cc pc = .ok (.arraylength, 1)) (h : q_rd (q_ln r) kk σ = some w) (n : ∀ x, kk x σ = some w → q_W E Γ Q nL σ (pc + 1) l (q_I x :: st)) : q_W E Γ Q nL σ pc l (q_R r :: st) := by
  obtain ⟨x, hx, h9⟩ := q_rd_e h
  clear h
  simp only [q_ln, Option.bind_eq_some_iff] at hx
  obtain ⟨⟨a, t, m, g⟩, e1, e2⟩ := hx
  obtain ⟨rfl, hM⟩ := q_ar_e e1
  cases e2
  intro h1 h2 H locs ls hz hH hS hl
  obtain ⟨⟨-, ht⟩, hA⟩ := hH a _ hM
  obtain ⟨ty, hty⟩ := q_tyE (E := E) ht
  exact va_alen (v := nI m) C.1 C.2.1 C.2.2.2.2.2.1 (q_P1 (D := q_eD E) (cl := vwCl) (q := (a, .inl (q_eT E t, m, g))) hA) 0 t rfl hty rfl d (n _ h9 h1 h2 H locs ls hz hH hS hl)
