/-! ===== the class's scan finds q_sc ===== -/
def q_CA (l : List q_Tok) (a b c : Nat → Int32) (d : Nat → Int64) : Prop := ∀ t x, l[t]? = some x → a t = nI x.1 ∧ b t = nI x.2.1 ∧ c t = nI x.2.2.1 ∧ ((x.1 = 2 ∨ x.1 = 3) → d t = x.2.2.2)
theorem q_CA_add {l : List q_Tok} {a b c : Nat → Int32} {d : Nat → Int64} {x : q_Tok} {w : Int64} (h : q_CA l a b c d) (hw : (x.1 = 2 ∨ x.1 = 3) → w = x.2.2.2) : q_CA (l ++ [x]) (q_u1 a l.length (nI x.1)) (q_u1 b l.length (nI x.2.1)) (q_u1 c l.length (nI x.2.2.1)) (q_u1 d l.length w) := by
  intro t y hy
  by_cases ht : t < l.length
  · rw [List.getElem?_append_left ht] at hy
    obtain ⟨h1, h2, h3, h4⟩ := h t y hy
    have hn : t ≠ l.length := by omega
    exact ⟨by rw [q_u1_n _ _ hn, h1], by rw [q_u1_n _ _ hn, h2], by rw [q_u1_n _ _ hn, h3], fun e => by rw [q_u1_n _ _ hn, h4 e]⟩
  · have hl : t = l.length := by
      have := (List.getElem?_eq_some_iff.mp hy).1
      simp only [List.length_append, List.length_cons, List.length_nil] at this
      omega
    subst hl
    rw [List.getElem?_append_right (Nat.le_refl _), Nat.sub_self] at hy
    simp only [List.getElem?_cons_zero, Option.some.injEq] at hy
    subst hy
    exact ⟨q_u1_s _ _ _, q_u1_s _ _ _, q_u1_s _ _ _, fun e => by rw [q_u1_s]; exact hw e⟩
theorem q_u2_u2 {α : Type} (f : Nat → Nat → α) (j k : Nat) (v w : α) : q_u2 (q_u2 f j k v) j k w = q_u2 f j k w := by
  funext a i
  by_cases h : a = j
  · subst h
    rw [q_u2_s, q_u2_s, q_u2_s]
    by_cases hi : i = k
    · subst hi; rw [q_u1_s, q_u1_s]
    · rw [q_u1_n _ _ hi, q_u1_n _ _ hi, q_u1_n _ _ hi]
  · rw [q_u2_n _ _ _ h, q_u2_n _ _ _ h, q_u2_n _ _ _ h]
/-- bytes -/
def q_By (c : Int32) : Prop := -128 ≤ c ∧ c ≤ 127
theorem q_By_c {c : Int32} (h : q_By c) : (((c &&& (255 : Int32)).toUInt32 % 65536).toInt32).toInt8.toInt32 = c ∧ ¬ ((c &&& (255 : Int32)).toUInt32 % 65536).toInt32 < 0 ∧ ¬ 255 < ((c &&& (255 : Int32)).toUInt32 % 65536).toInt32 := by
  have h1 : -128 ≤ c.toInt := by
    have := Int32.le_iff_toInt_le.mp h.1
    simpa using this
  have h2 : c.toInt ≤ 127 := by
    have := Int32.le_iff_toInt_le.mp h.2
    simpa using this
  have h3 : ∀ k : Fin 256, ((((Int32.ofInt ((k.val : Int) - 128)) &&& (255 : Int32)).toUInt32 % 65536).toInt32).toInt8.toInt32 = Int32.ofInt ((k.val : Int) - 128) ∧ ¬ (((Int32.ofInt ((k.val : Int) - 128)) &&& (255 : Int32)).toUInt32 % 65536).toInt32 < 0 ∧ ¬ 255 < (((Int32.ofInt ((k.val : Int) - 128)) &&& (255 : Int32)).toUInt32 % 65536).toInt32 := by decide +kernel
  have h4 : c = Int32.ofInt (((c.toInt + 128).toNat : Int) - 128) := by
    rw [Int.toNat_of_nonneg (by omega), Int.add_sub_cancel, Int32.ofInt_toInt]
  have h5 := h3 ⟨(c.toInt + 128).toNat, by omega⟩
  rw [← h4] at h5
  exact h5
theorem q_By_m {c : Int32} (h : q_By c) : c.toInt8.toInt32 = c := by
  have h1 : -128 ≤ c.toInt := by
    have := Int32.le_iff_toInt_le.mp h.1
    simpa using this
  have h2 : c.toInt ≤ 127 := by
    have := Int32.le_iff_toInt_le.mp h.2
    simpa using this
  have h3 : ∀ k : Fin 256, (Int32.ofInt ((k.val : Int) - 128)).toInt8.toInt32 = Int32.ofInt ((k.val : Int) - 128) := by decide +kernel
  have h4 : c = Int32.ofInt (((c.toInt + 128).toNat : Int) - 128) := by
    rw [Int.toNat_of_nonneg (by omega), Int.add_sub_cancel, Int32.ofInt_toInt]
  have h5 := h3 ⟨(c.toInt + 128).toNat, by omega⟩
  rw [← h4] at h5
  exact h5
section QIX
variable {κ : Nat → Nat} {b i : Nat} {C : q_CT} {M : q_MT} {O : Nat → Int64} {D : q_Mem} {s : Nat × Nat}
theorem q_indexOfChar_7 (hK : q_Kp κ b D) (hi : i < q_tx.length) (ch : Int32) : ∀ n fuel j, j + n = (q_tt i).length → n < fuel → ∃ v, F_J1_indexOfChar_4cfef_7 κ fuel (some (κ (200 + i))) (nI (q_tt i).length) ch (nI j) (q_H b C M O D, s) = some (.inl v, (q_H b C M O D, s)) ∧ (v < 0 ↔ ∀ x, j ≤ x → x < (q_tt i).length → (q_tt i).getD x 0 ≠ ch) := by
  have hl := q_tt_len i hi
  intro n
  induction n with
  | zero =>
    intro fuel j h1 h2
    obtain ⟨f, rfl⟩ : ∃ f, fuel = f + 1 := ⟨fuel - 1, by omega⟩
    refine ⟨-1, ?_, ?_⟩
    · simp only [F_J1_indexOfChar_4cfef_7, F_J1_indexOfChar_4cfef_7B, q_br]
      rw [if_pos (nI_le (by omega) (by omega))]
      rfl
    · exact ⟨fun _ x h3 h4 => by omega, fun _ => by decide⟩
  | succ n ih =>
    intro fuel j h1 h2
    obtain ⟨f, rfl⟩ : ∃ f, fuel = f + 1 := ⟨fuel - 1, by omega⟩
    have e1 : F_J1_indexOfChar_4cfef_7 κ (f + 1) (some (κ (200 + i))) (nI (q_tt i).length) ch (nI j) (q_H b C M O D, s) = (if ¬ (q_tt i).getD j 0 = ch then F_J1_indexOfChar_4cfef_7 κ f (some (κ (200 + i))) (nI (q_tt i).length) ch (nI (j + 1)) (q_H b C M O D, s) else some (.inl (nI j), (q_H b C M O D, s))) := by
      simp only [F_J1_indexOfChar_4cfef_7, F_J1_indexOfChar_4cfef_7B, q_br]
      rw [if_neg (nI_ge (by omega) (by omega)), q_lS_1 hK hi (by omega)]
      simp only [nI_1]
      rfl
    by_cases hc : (q_tt i).getD j 0 = ch
    · refine ⟨nI j, by rw [e1, if_neg (fun h => h hc)], ?_⟩
      refine ⟨fun h => absurd h (nI_pos (by omega)), fun h => absurd hc (h j (Nat.le_refl _) (by omega))⟩
    · obtain ⟨v, h3, h4⟩ := ih f (j + 1) (by omega) (by omega)
      refine ⟨v, by rw [e1, if_pos hc, h3], h4.trans ⟨fun h x hx1 hx2 => ?_, fun h x hx1 hx2 => h x (by omega) hx2⟩⟩
      rcases Nat.eq_or_lt_of_le hx1 with h5 | h5
      · rw [← h5]; exact hc
      · exact h x h5 hx2
theorem q_has_iff {l : List Int32} {c : Int32} : l.contains c = true ↔ ∃ x, x < l.length ∧ l.getD x 0 = c := by
  rw [List.contains_iff_mem, List.mem_iff_getElem]
  constructor
  · rintro ⟨x, h1, h2⟩
    exact ⟨x, h1, by simp [List.getD, h1, h2]⟩
  · rintro ⟨x, h1, h2⟩
    exact ⟨x, h1, by simpa [List.getD, h1] using h2⟩
theorem q_indexOf {c : Int32} (hK : q_Kp κ b D) (hi : i < q_tx.length) (h0 : 0 < (q_tt i).length) : ∃ v, F_J0_indexOf_0f7a4 κ (some (κ i)) c (q_H b C M O D, s) = some (.inl v, (q_H b C M O D, s)) ∧ (v < 0 ↔ (c < 0 ∨ 255 < c) ∨ (q_tt i).contains c.toInt8.toInt32 = false) := by
  have hl := q_tt_len i hi
  obtain ⟨v, h1, h2⟩ := q_indexOfChar_7 (C := C) (M := M) (O := O) (s := s) hK hi c.toInt8.toInt32 (q_tt i).length q_fu 0 (by omega) (by unfold q_fu; omega)
  have h2' : v < 0 ↔ (q_tt i).contains c.toInt8.toInt32 = false := by
    rw [h2, ← Bool.not_eq_true, q_has_iff]
    constructor
    · rintro h ⟨x, hx1, hx2⟩; exact h x (Nat.zero_le _) hx1 hx2
    · intro h x _ hx hx2; exact h ⟨x, hx, hx2⟩
  have e0 : F_J0_indexOf_0f7a4 κ (some (κ i)) c (q_H b C M O D, s) = match F_J1_indexOf_4cfef κ (some (κ (200 + i))) c 0 (nI (q_tt i).length) (q_H b C M O D, s) with
      | some (.inl a, τ) => some (.inl a, τ)
      | some (.inr x, τ) => some (.inr x, τ)
      | none => none := by
    unfold F_J0_indexOf_0f7a4
    rw [q_sp_0 hK hi]
    unfold F_J0_indexOf_7cf53
    simp only [q_ca]
    rw [q_sp_0 hK hi]
    simp only [q_ca, q_J0_isLatin1 hK hi, q_br]
    rw [if_neg (by decide), q_sp_0 hK hi, q_sp_0 hK hi]
    simp only [q_ca, q_J0_length hK hi, F_J0_indexOf_7cf53_36, q_rt]
    cases F_J1_indexOf_4cfef κ (some (κ (200 + i))) c 0 (nI (q_tt i).length) (q_H b C M O D, s) with
    | none => rfl
    | some p =>
      obtain ⟨r, τ⟩ := p
      cases r <;> rfl
  by_cases hc : c < 0 ∨ 255 < c
  · refine ⟨-1, ?_, ⟨fun _ => Or.inl hc, fun _ => by decide⟩⟩
    have e1 : F_J1_indexOf_4cfef κ (some (κ (200 + i))) c 0 (nI (q_tt i).length) (q_H b C M O D, s) = some (.inl (-1), (q_H b C M O D, s)) := by
      have e2 : F_J1_canEncode_9a6ad κ c (q_H b C M O D, s) = some (.inl 0, (q_H b C M O D, s)) := by
        simp only [↓q_br, q_rt, q_rz, q_gd, q_ca, ↓reduceIte, F_J1_canEncode_9a6ad_16, F_J1_canEncode_9a6ad_15, F_J1_canEncode_9a6ad]
        rcases hc with hc | hc
        · simp [hc]
        · simp [hc]
      simp only [F_J1_indexOf_4cfef, q_ca, e2, q_br]
      simp [q_rt]
    rw [e0, e1]
  · refine ⟨v, ?_, ?_⟩
    · have e1 : F_J1_indexOf_4cfef κ (some (κ (200 + i))) c 0 (nI (q_tt i).length) (q_H b C M O D, s) = some (.inl v, (q_H b C M O D, s)) := by
        have hc1 : ¬ c < 0 := fun h => hc (Or.inl h)
        have hc2 : ¬ 255 < c := fun h => hc (Or.inr h)
        have e2 : F_J1_canEncode_9a6ad κ c (q_H b C M O D, s) = some (.inl 1, (q_H b C M O D, s)) := by
          simp only [↓q_br, q_rt, q_rz, q_gd, q_ca, ↓reduceIte, F_J1_canEncode_9a6ad_16, F_J1_canEncode_9a6ad_15, F_J1_canEncode_9a6ad]
          simp [hc1, hc2]
        have e3 : F_J9_max_7cf53 κ 0 0 (q_H b C M O D, s) = some (.inl 0, (q_H b C M O D, s)) := by
          simp only [↓q_br, q_rt, q_rz, q_gd, q_ca, ↓reduceIte, F_J9_max_7cf53_10, F_J9_max_7cf53]
          simp
        have e4 : F_J9_min_7cf53 κ (nI (q_tt i).length) (nI (q_tt i).length) (q_H b C M O D, s) = some (.inl (nI (q_tt i).length), (q_H b C M O D, s)) := by
          simp only [↓q_br, q_rt, q_rz, q_gd, q_ca, ↓reduceIte, F_J9_min_7cf53_10, F_J9_min_7cf53]
          simp
        have e5 : (0 : Int32) < nI (q_tt i).length := nI_lt (a := 0) h0 (by omega)
        simp only [F_J1_indexOf_4cfef, q_ca, e2, q_br]
        rw [if_pos (by decide)]
        simp only [e3]
        rw [q_sp_1 hK hi]
        simp only [q_ca, e4, q_br, e5, if_true, F_J1_indexOfChar_4cfef]
        rw [nI_0] at h1
        simp only [h1, q_rt]
      rw [e0, e1]
    · rw [h2']
      exact ⟨fun h => Or.inr h, fun h => h.resolve_left hc⟩
end QIX
