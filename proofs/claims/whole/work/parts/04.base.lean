/-! ===== the picture of the memory, and programs over it ===== -/
/-- a cell: an array (its type's number, length, contents); an object (its class's number, its fields); an old one: 0 a text constant by its number, 1 its bytes, 2 the empty array that lists share -/
abbrev q_Cel : Type := (Nat × vp_A) ⊕ (Nat × List Value) ⊕ (Nat × Nat)
abbrev q_Mem : Type := Nat → Option q_Cel
/-- cells, the next address, slots made so far -/
abbrev q_St : Type := q_Mem × Nat × Nat
abbrev q_Exn : Type := String × Nat
abbrev q_X (α : Type) : Type := q_St → Option ((α ⊕ q_Exn) × q_St)
def q_up (M : q_Mem) (a : Nat) (e : q_Cel) : q_Mem := fun b => if b = a then some e else M b
theorem q_up_s (M : q_Mem) (a : Nat) (e : q_Cel) : q_up M a e a = some e := by simp [q_up]
theorem q_up_n (M : q_Mem) {a b : Nat} (e : q_Cel) (h : b ≠ a) : q_up M a e b = M b := by simp [q_up, h]
def q_rt {α : Type} (a : α) : q_X α := fun σ => some (.inl a, σ)
def q_rd {α β : Type} (g : q_Mem → Option α) (k : α → q_X β) : q_X β := fun σ => match g σ.1 with
  | some a => k a σ
  | none => none
def q_wr {β : Type} (g : q_Mem → Option q_Mem) (k : q_X β) : q_X β := fun σ => match g σ.1 with
  | some m => k (m, σ.2)
  | none => none
def q_mk {β : Type} (e : q_Cel) (n : Nat) (k : Nat → q_X β) : q_X β := fun σ => k σ.2.1 (q_up σ.1 σ.2.1 e, σ.2.1 + 1, σ.2.2 + n)
def q_ca {α β : Type} (f : q_X α) (k : α → q_X β) : q_X β := fun σ => match f σ with
  | some (.inl a, τ) => k a τ
  | some (.inr x, τ) => some (.inr x, τ)
  | none => none
/-- a call whose exception is caught here -/
def q_cc {α β : Type} (f : q_X α) (k : α → q_X β) (h : q_Exn → q_X β) : q_X β := fun σ => match f σ with
  | some (.inl a, τ) => k a τ
  | some (.inr x, τ) => h x τ
  | none => none
def q_br {β : Type} (c : Prop) [Decidable c] (a b : q_X β) : q_X β := fun σ => if c then a σ else b σ
def q_gd {β : Type} (c : Prop) [Decidable c] (a : q_X β) : q_X β := fun σ => if c then a σ else none
def q_no {β : Type} : q_X β := fun _ => none
/-- throw new N("a text"): the object isn't in the picture, its six slots are counted -/
def q_th {β : Type} (N : String) : q_X β := fun σ => some (.inr (N, σ.2.1), (σ.1, σ.2.1 + 1, σ.2.2 + 6))
/-- athrow of an object of the class N -/
def q_tr {β : Type} (N : String) (r : Option Nat) : q_X β := fun σ => match r with
  | some a => some (.inr (N, a), σ)
  | none => none
/-- fields -/
def q_fs (r : Option Nat) (ci : Nat) (M : q_Mem) : Option (Nat × List Value) := match r with
  | some a => (match M a with
    | some (.inr (.inl (c, fs))) => if c = ci then some (a, fs) else none
    | _ => none)
  | none => none
def q_vI : Value → Option Int32
  | .int x => some x
  | _ => none
def q_vL : Value → Option Int64
  | .long x => some x
  | _ => none
def q_vA : Value → Option (Option Nat)
  | .ref x => some (some x)
  | .null => some none
  | _ => none
def q_gI (r : Option Nat) (ci k : Nat) (M : q_Mem) : Option Int32 := (q_fs r ci M).bind fun p => (p.2[k]?).bind q_vI
def q_gL (r : Option Nat) (ci k : Nat) (M : q_Mem) : Option Int64 := (q_fs r ci M).bind fun p => (p.2[k]?).bind q_vL
def q_gA (r : Option Nat) (ci k : Nat) (M : q_Mem) : Option (Option Nat) := (q_fs r ci M).bind fun p => (p.2[k]?).bind q_vA
def q_pF (r : Option Nat) (ci k : Nat) (v : Value) (M : q_Mem) : Option q_Mem := (q_fs r ci M).bind fun p => if k < p.2.length then some (q_up M p.1 (.inr (.inl (ci, p.2.set k v)))) else none
/-- arrays -/
def q_ar (r : Option Nat) (M : q_Mem) : Option (Nat × Nat × vp_A) := match r with
  | some a => (match M a with
    | some (.inl (t, A)) => some (a, t, A)
    | _ => none)
  | none => none
def q_len (r : Option Nat) (M : q_Mem) : Option Int32 := match r with
  | some a => (match M a with
    | some (.inl (_, n, _)) => some (nI n)
    | some (.inr (.inr (2, _))) => some 0
    | _ => none)
  | none => none
def q_out (i : Int32) (n : Nat) : Prop := i < 0 ∨ n ≤ i.toNatClampNeg
def q_lI (t : Nat) (r : Option Nat) (i : Int32) (M : q_Mem) : Option Int32 := (q_ar r M).bind fun p => match p with
  | (_, t', n, .inl f) => if t' = t ∧ ¬ (i < 0 ∨ n ≤ i.toNatClampNeg) then some (f i.toNatClampNeg) else none
  | _ => none
def q_lL (r : Option Nat) (i : Int32) (M : q_Mem) : Option Int64 := (q_ar r M).bind fun p => match p with
  | (_, t', n, .inr (.inl f)) => if t' = 2 ∧ ¬ (i < 0 ∨ n ≤ i.toNatClampNeg) then some (f i.toNatClampNeg) else none
  | _ => none
def q_lA (t : Nat) (r : Option Nat) (i : Int32) (M : q_Mem) : Option (Option Nat) := (q_ar r M).bind fun p => match p with
  | (_, t', n, .inr (.inr (.inr (.inr f)))) => if t' = t ∧ ¬ (i < 0 ∨ n ≤ i.toNatClampNeg) then some (f i.toNatClampNeg) else none
  | _ => none
def q_sI (t : Nat) (r : Option Nat) (i x : Int32) (M : q_Mem) : Option q_Mem := (q_ar r M).bind fun p => match p with
  | (a, t', n, .inl f) => if t' = t ∧ ¬ (i < 0 ∨ n ≤ i.toNatClampNeg) then some (q_up M a (.inl (t, n, .inl (upd f i.toNatClampNeg x)))) else none
  | _ => none
def q_sL (r : Option Nat) (i : Int32) (x : Int64) (M : q_Mem) : Option q_Mem := (q_ar r M).bind fun p => match p with
  | (a, t', n, .inr (.inl f)) => if t' = 2 ∧ ¬ (i < 0 ∨ n ≤ i.toNatClampNeg) then some (q_up M a (.inl (2, n, .inr (.inl (vp_updL f i.toNatClampNeg x))))) else none
  | _ => none
def q_sA (t : Nat) (r : Option Nat) (i : Int32) (x : Option Nat) (M : q_Mem) : Option q_Mem := (q_ar r M).bind fun p => match p with
  | (a, t', n, .inr (.inr (.inr (.inr f)))) => if t' = t ∧ ¬ (i < 0 ∨ n ≤ i.toNatClampNeg) then some (q_up M a (.inl (t, n, .inr (.inr (.inr (.inr (va_up f i.toNatClampNeg x))))))) else none
  | _ => none
/-- old cells -/
def q_sp (r : Option Nat) (kd : Nat) (M : q_Mem) : Option Nat := match r with
  | some a => (match M a with
    | some (.inr (.inr (k, i))) => if k = kd then some i else none
    | _ => none)
  | none => none
/-- new arrays -/
def q_nI (t : Nat) (n : Int32) : q_Cel := .inl (t, n.toNatClampNeg, .inl (fun _ => 0))
def q_nL (n : Int32) : q_Cel := .inl (2, n.toNatClampNeg, .inr (.inl (fun _ => 0)))
def q_nA (t : Nat) (n : Int32) : q_Cel := .inl (t, n.toNatClampNeg, .inr (.inr (.inr (.inr (fun _ => none)))))
/-! ===== what they say when they end ===== -/
theorem q_rt_e {α : Type} {a : α} {σ τ : q_St} {r : α ⊕ q_Exn} (h : q_rt a σ = some (r, τ)) : r = .inl a ∧ τ = σ := by
  simp only [q_rt, Option.some.injEq, Prod.mk.injEq] at h
  exact ⟨h.1.symm, h.2.symm⟩
theorem q_rd_e {α β : Type} {g : q_Mem → Option α} {k : α → q_X β} {σ : q_St} {o : (β ⊕ q_Exn) × q_St} (h : q_rd g k σ = some o) : ∃ a, g σ.1 = some a ∧ k a σ = some o := by
  unfold q_rd at h
  cases hg : g σ.1 with
  | none => rw [hg] at h; cases h
  | some a => rw [hg] at h; exact ⟨a, rfl, h⟩
theorem q_wr_e {β : Type} {g : q_Mem → Option q_Mem} {k : q_X β} {σ : q_St} {o : (β ⊕ q_Exn) × q_St} (h : q_wr g k σ = some o) : ∃ m, g σ.1 = some m ∧ k (m, σ.2) = some o := by
  unfold q_wr at h
  cases hg : g σ.1 with
  | none => rw [hg] at h; cases h
  | some a => rw [hg] at h; exact ⟨a, rfl, h⟩
theorem q_ca_e {α β : Type} {f : q_X α} {k : α → q_X β} {σ : q_St} {o : (β ⊕ q_Exn) × q_St} (h : q_ca f k σ = some o) : (∃ a τ, f σ = some (.inl a, τ) ∧ k a τ = some o) ∨ ∃ x τ, f σ = some (.inr x, τ) ∧ o = (.inr x, τ) := by
  unfold q_ca at h
  cases hf : f σ with
  | none => rw [hf] at h; cases h
  | some p =>
    obtain ⟨r, τ⟩ := p
    rw [hf] at h
    cases r with
    | inl a => exact Or.inl ⟨a, τ, rfl, h⟩
    | inr x => exact Or.inr ⟨x, τ, rfl, (Option.some.inj h).symm⟩
theorem q_cc_e {α β : Type} {f : q_X α} {k : α → q_X β} {kx : q_Exn → q_X β} {σ : q_St} {o : (β ⊕ q_Exn) × q_St} (h : q_cc f k kx σ = some o) : (∃ a τ, f σ = some (.inl a, τ) ∧ k a τ = some o) ∨ ∃ x τ, f σ = some (.inr x, τ) ∧ kx x τ = some o := by
  unfold q_cc at h
  cases hf : f σ with
  | none => rw [hf] at h; cases h
  | some p =>
    obtain ⟨r, τ⟩ := p
    rw [hf] at h
    cases r with
    | inl a => exact Or.inl ⟨a, τ, rfl, h⟩
    | inr x => exact Or.inr ⟨x, τ, rfl, h⟩
theorem q_br_e {β : Type} {c : Prop} [Decidable c] {a b : q_X β} {σ : q_St} {o : (β ⊕ q_Exn) × q_St} (h : q_br c a b σ = some o) : (c → a σ = some o) ∧ (¬ c → b σ = some o) := by
  unfold q_br at h
  exact ⟨fun hc => by rw [if_pos hc] at h; exact h, fun hc => by rw [if_neg hc] at h; exact h⟩
theorem q_gd_e {β : Type} {c : Prop} [Decidable c] {a : q_X β} {σ : q_St} {o : (β ⊕ q_Exn) × q_St} (h : q_gd c a σ = some o) : c ∧ a σ = some o := by
  unfold q_gd at h
  by_cases hc : c
  · rw [if_pos hc] at h; exact ⟨hc, h⟩
  · rw [if_neg hc] at h; cases h
/-! ===== nothing is unmade ===== -/
def q_le (σ τ : q_St) : Prop := σ.2.1 ≤ τ.2.1 ∧ σ.2.2 ≤ τ.2.2
theorem q_le_r (σ : q_St) : q_le σ σ := ⟨Nat.le_refl _, Nat.le_refl _⟩
theorem q_le_t {a b c : q_St} (h : q_le a b) (k : q_le b c) : q_le a c := ⟨Nat.le_trans h.1 k.1, Nat.le_trans h.2 k.2⟩
def q_mo {α : Type} (f : q_X α) : Prop := ∀ σ r τ, f σ = some (r, τ) → q_le σ τ
theorem q_mo_rt {α : Type} {a : α} : q_mo (q_rt a) := fun σ r τ h => by rw [(q_rt_e h).2]; exact q_le_r σ
theorem q_mo_rd {α β : Type} {g : q_Mem → Option α} {k : α → q_X β} (hk : ∀ a, q_mo (k a)) : q_mo (q_rd g k) := fun σ r τ h => by
  obtain ⟨a, -, h⟩ := q_rd_e h
  exact hk a σ r τ h
theorem q_mo_wr {β : Type} {g : q_Mem → Option q_Mem} {k : q_X β} (hk : q_mo k) : q_mo (q_wr g k) := fun σ r τ h => by
  obtain ⟨a, -, h⟩ := q_wr_e h
  exact hk (a, σ.2) r τ h
theorem q_mo_mk {β : Type} {e : q_Cel} {n : Nat} {k : Nat → q_X β} (hk : ∀ a, q_mo (k a)) : q_mo (q_mk e n k) := fun σ r τ h => by
  have h1 := hk _ _ r τ h
  exact q_le_t ⟨Nat.le_succ _, Nat.le_add_right _ _⟩ h1
theorem q_mo_ca {α β : Type} {f : q_X α} {k : α → q_X β} (hf : q_mo f) (hk : ∀ a, q_mo (k a)) : q_mo (q_ca f k) := fun σ r τ h => by
  rcases q_ca_e h with ⟨a, τ1, h1, h2⟩ | ⟨x, τ1, h1, h2⟩
  · exact q_le_t (hf _ _ _ h1) (hk a _ _ _ h2)
  · cases h2; exact hf _ _ _ h1
theorem q_mo_cc {α β : Type} {f : q_X α} {k : α → q_X β} {kx : q_Exn → q_X β} (hf : q_mo f) (hk : ∀ a, q_mo (k a)) (hx : ∀ x, q_mo (kx x)) : q_mo (q_cc f k kx) := fun σ r τ h => by
  rcases q_cc_e h with ⟨a, τ1, h1, h2⟩ | ⟨x, τ1, h1, h2⟩
  · exact q_le_t (hf _ _ _ h1) (hk a _ _ _ h2)
  · exact q_le_t (hf _ _ _ h1) (hx x _ _ _ h2)
theorem q_mo_br {β : Type} {c : Prop} [Decidable c] {a b : q_X β} (ha : q_mo a) (hb : q_mo b) : q_mo (q_br c a b) := fun σ r τ h => by
  by_cases hc : c
  · exact ha _ _ _ ((q_br_e h).1 hc)
  · exact hb _ _ _ ((q_br_e h).2 hc)
theorem q_mo_gd {β : Type} {c : Prop} [Decidable c] {a : q_X β} (ha : q_mo a) : q_mo (q_gd c a) := fun σ r τ h => ha _ _ _ (q_gd_e h).2
theorem q_mo_no {β : Type} : q_mo (q_no : q_X β) := fun σ r τ h => by cases h
theorem q_mo_th {β : Type} {N : String} : q_mo (q_th N : q_X β) := fun σ r τ h => by
  simp only [q_th, Option.some.injEq, Prod.mk.injEq] at h
  obtain ⟨-, rfl⟩ := h
  exact ⟨Nat.le_succ _, Nat.le_add_right _ _⟩
theorem q_mo_tr {β : Type} {N : String} {x : Option Nat} : q_mo (q_tr N x : q_X β) := fun σ r τ h => by
  cases x with
  | none => cases h
  | some a => simp only [q_tr, Option.some.injEq, Prod.mk.injEq] at h; rw [← h.2]; exact q_le_r σ
