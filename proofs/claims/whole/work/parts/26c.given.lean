section QWO
variable {s : State} {args : Array Value}
theorem q_w_NW (hts : ∀ w ∈ lw_tbl, w.before args s = true) : ∀ w ∈ q_NW, va_Nw w s := (List.forall_mem_cons.mpr ⟨va_Nw.of rfl (hts _ (q_tm1 49 (by decide +kernel))), (List.forall_mem_cons.mpr ⟨va_Nw.of rfl (hts _ (q_tm1 99 (by decide +kernel))), (List.forall_mem_cons.mpr ⟨va_Nw.of rfl (hts _ (q_tm1 136 (by decide +kernel))), (fun _ h => nomatch h)⟩)⟩)⟩)
theorem q_w_CW (hts : ∀ w ∈ lw_tbl, w.before args s = true) : ∀ w ∈ q_CW, va_Nw w s := (List.forall_mem_cons.mpr ⟨va_Nw.of rfl (hts _ (q_tm2 109 (by decide +kernel))), (List.forall_mem_cons.mpr ⟨va_Nw.of rfl (hts _ (q_tm2 110 (by decide +kernel))), (List.forall_mem_cons.mpr ⟨va_Nw.of rfl (hts _ (q_tm2 111 (by decide +kernel))), (List.forall_mem_cons.mpr ⟨va_Nw.of rfl (hts _ (q_tm2 112 (by decide +kernel))), (List.forall_mem_cons.mpr ⟨va_Nw.of rfl (hts _ (q_tm2 113 (by decide +kernel))), (List.forall_mem_cons.mpr ⟨va_Nw.of rfl (hts _ (q_tm2 114 (by decide +kernel))), (List.forall_mem_cons.mpr ⟨va_Nw.of rfl (hts _ (q_tm2 115 (by decide +kernel))), (List.forall_mem_cons.mpr ⟨va_Nw.of rfl (hts _ (q_tm2 195 (by decide +kernel))), (List.forall_mem_cons.mpr ⟨va_Nw.of rfl (hts _ (q_tm4 60 (by decide +kernel))), (List.forall_mem_cons.mpr ⟨va_Nw.of rfl (hts _ (q_tm5 174 (by decide +kernel))), (List.forall_mem_cons.mpr ⟨va_Nw.of rfl (hts _ (q_tm6 226 (by decide +kernel))), (List.forall_mem_cons.mpr ⟨va_Nw.of rfl (hts _ (q_tm7 107 (by decide +kernel))), (List.forall_mem_cons.mpr ⟨va_Nw.of rfl (hts _ (q_tm8 154 (by decide +kernel))), (List.forall_mem_cons.mpr ⟨va_Nw.of rfl (hts _ (q_tm9 140 (by decide +kernel))), (List.forall_mem_cons.mpr ⟨va_Nw.of rfl (hts _ (q_tm9 143 (by decide +kernel))), (List.forall_mem_cons.mpr ⟨va_Nw.of rfl (hts _ (q_tm9 144 (by decide +kernel))), (List.forall_mem_cons.mpr ⟨va_Nw.of rfl (hts _ (q_tm9 145 (by decide +kernel))), (List.forall_mem_cons.mpr ⟨va_Nw.of rfl (hts _ (q_tm9 146 (by decide +kernel))), (List.forall_mem_cons.mpr ⟨va_Nw.of rfl (hts _ (q_tm9 147 (by decide +kernel))), (List.forall_mem_cons.mpr ⟨va_Nw.of rfl (hts _ (q_tm9 148 (by decide +kernel))), (List.forall_mem_cons.mpr ⟨va_Nw.of rfl (hts _ (q_tm9 149 (by decide +kernel))), (List.forall_mem_cons.mpr ⟨va_Nw.of rfl (hts _ (q_tm9 150 (by decide +kernel))), (List.forall_mem_cons.mpr ⟨va_Nw.of rfl (hts _ (q_tm9 151 (by decide +kernel))), (List.forall_mem_cons.mpr ⟨va_Nw.of rfl (hts _ (q_tm9 152 (by decide +kernel))), (List.forall_mem_cons.mpr ⟨va_Nw.of rfl (hts _ (q_tm9 153 (by decide +kernel))), (List.forall_mem_cons.mpr ⟨va_Nw.of rfl (hts _ (q_tm9 154 (by decide +kernel))), (List.forall_mem_cons.mpr ⟨va_Nw.of rfl (hts _ (q_tm9 155 (by decide +kernel))), (List.forall_mem_cons.mpr ⟨va_Nw.of rfl (hts _ (q_tm9 156 (by decide +kernel))), (List.forall_mem_cons.mpr ⟨va_Nw.of rfl (hts _ (q_tm9 157 (by decide +kernel))), (List.forall_mem_cons.mpr ⟨va_Nw.of rfl (hts _ (q_tm9 158 (by decide +kernel))), (fun _ h => nomatch h)⟩)⟩)⟩)⟩)⟩)⟩)⟩)⟩)⟩)⟩)⟩)⟩)⟩)⟩)⟩)⟩)⟩)⟩)⟩)⟩)⟩)⟩)⟩)⟩)⟩)⟩)⟩)⟩)⟩)⟩)
theorem q_w_AO (hts : ∀ w ∈ lw_tbl, w.before args s = true) : ∀ C ∈ q_AO, va_AO C s := (List.forall_mem_cons.mpr ⟨va_AO.of (hts _ (q_tm1 104 (by decide +kernel))), (List.forall_mem_cons.mpr ⟨va_AO.of (hts _ (q_tm1 106 (by decide +kernel))), (List.forall_mem_cons.mpr ⟨va_AO.of (hts _ (q_tm4 199 (by decide +kernel))), (List.forall_mem_cons.mpr ⟨va_AO.of (hts _ (q_tm6 94 (by decide +kernel))), (fun _ h => nomatch h)⟩)⟩)⟩)⟩)
theorem q_w_NC (hF : ∀ w ∈ q_Fc, w.before args s = true) : ∀ q ∈ q_NC, va_Nc q.1 q.2 s := (List.forall_mem_cons.mpr ⟨va_Nc.of (hF (.not (.castable "java/lang/UnsupportedOperationException" "java/lang/IllegalStateException")) (List.mem_of_getElem? (i := 237) (by decide +kernel))), (List.forall_mem_cons.mpr ⟨va_Nc.of (hF (.not (.castable "java/lang/IllegalArgumentException" "java/lang/IllegalStateException")) (List.mem_of_getElem? (i := 231) (by decide +kernel))), (List.forall_mem_cons.mpr ⟨va_Nc.of (hF (.not (.castable "java/lang/IllegalArgumentException" "java/lang/IndexOutOfBoundsException")) (List.mem_of_getElem? (i := 316) (by decide +kernel))), (fun _ h => nomatch h)⟩)⟩)⟩)
theorem q_w_SR {K : Nat → Nat} (hts : ∀ w ∈ lw_tbl, w.before args s = true) (hF : ∀ w ∈ q_Fc, w.before args s = true) (hK : ∀ i : Nat, i < 22 → (q_stm i).eval args s none [] s = some (.ref (K i))) : ∀ q ∈ q_SR, vk_R q.1 q.2.1 q.2.2.1 (K q.2.2.2) s := (List.forall_mem_cons.mpr ⟨vk_R.of (hts (.stringRef "IsaForge" 72 "the text would be too long") (q_tm2 151 (by decide +kernel))) (hK 0 (by decide)), (List.forall_mem_cons.mpr ⟨vk_R.of (hts (.stringRef "IsaForge" 87 "the text has not so many bytes") (q_tm2 202 (by decide +kernel))) (hK 1 (by decide)), (List.forall_mem_cons.mpr ⟨vk_R.of (hts (.stringRef "IsaForge$Text" 59 ".,:;=|()[]+-@") (q_tm3 7 (by decide +kernel))) (hK 2 (by decide)), (List.forall_mem_cons.mpr ⟨vk_R.of (hts (.stringRef "IsaForge$Describer" 61 "word") (q_tm3 135 (by decide +kernel))) (hK 3 (by decide)), (List.forall_mem_cons.mpr ⟨vk_R.of (hts (.stringRef "IsaForge$Describer" 107 "reg") (q_tm3 203 (by decide +kernel))) (hK 4 (by decide)), (List.forall_mem_cons.mpr ⟨vk_R.of (hts (.stringRef "IsaForge$Describer" 109 "num") (q_tm3 204 (by decide +kernel))) (hK 5 (by decide)), (List.forall_mem_cons.mpr ⟨vk_R.of (hts (.stringRef "IsaForge$Describer" 111 "int") (q_tm3 205 (by decide +kernel))) (hK 6 (by decide)), (List.forall_mem_cons.mpr ⟨vk_R.of (hts (.stringRef "IsaForge$Describer" 113 "rel") (q_tm3 206 (by decide +kernel))) (hK 7 (by decide)), (List.forall_mem_cons.mpr ⟨vk_R.of (hts (.stringRef "IsaForge$Describer" 115 "set") (q_tm3 207 (by decide +kernel))) (hK 8 (by decide)), (List.forall_mem_cons.mpr ⟨vk_R.of (hts (.stringRef "IsaForge$Describer" 98 "ins") (q_tm3 208 (by decide +kernel))) (hK 9 (by decide)), (List.forall_mem_cons.mpr ⟨vk_R.of (hts (.stringRef "IsaForge$Describer" 228 ",()[]+-@") (q_tm5 55 (by decide +kernel))) (hK 10 (by decide)), (List.forall_mem_cons.mpr ⟨vk_R.of (hts (.stringRef "IsaForge" 103 "a fault in the description") (q_tm5 181 (by decide +kernel))) (hK 11 (by decide)), (List.forall_mem_cons.mpr ⟨vk_R.of (hts (.stringRef "IsaForge" 112 "there is no description") (q_tm5 195 (by decide +kernel))) (hK 12 (by decide)), (List.forall_mem_cons.mpr ⟨vk_R.of (hts (.stringRef "IsaForge$Program" 152 "at") (q_tm6 6 (by decide +kernel))) (hK 13 (by decide)), (List.forall_mem_cons.mpr ⟨vk_R.of (hts (.stringRef "IsaForge$Program" 169 "word") (q_tm6 116 (by decide +kernel))) (va_eqR (hF (.eq (.string "IsaForge$Describer" 61) (.string "IsaForge$Program" 169)) (List.mem_of_getElem? (i := 569) (by decide +kernel))) (hK 3 (by decide))), (List.forall_mem_cons.mpr ⟨vk_R.of (hts (.stringRef "IsaForge" 121 "a fault in the program") (q_tm6 211 (by decide +kernel))) (hK 14 (by decide)), (List.forall_mem_cons.mpr ⟨vk_R.of (hts (.stringRef "IsaForge" 137 "nothing is laid down there") (q_tm6 233 (by decide +kernel))) (hK 15 (by decide)), (List.forall_mem_cons.mpr ⟨vk_R.of (hts (.stringRef "IsaForge" 148 "no address, or no word") (q_tm7 8 (by decide +kernel))) (hK 16 (by decide)), (List.forall_mem_cons.mpr ⟨vk_R.of (hts (.stringRef "IsaForge$Listing" 63 ".word ") (q_tm7 40 (by decide +kernel))) (hK 17 (by decide)), (List.forall_mem_cons.mpr ⟨vk_R.of (hts (.stringRef "IsaForge" 161 "at is 0 to 300") (q_tm7 80 (by decide +kernel))) (hK 18 (by decide)), (List.forall_mem_cons.mpr ⟨vk_R.of (hts (.stringRef "IsaForge" 182 "there is no such instruction") (q_tm7 114 (by decide +kernel))) (hK 19 (by decide)), (List.forall_mem_cons.mpr ⟨vk_R.of (hts (.stringRef "IsaForge" 209 "nothing is told of that") (q_tm7 121 (by decide +kernel))) (hK 20 (by decide)), (List.forall_mem_cons.mpr ⟨vk_R.of (hts (.stringRef "IsaForge" 230 "nothing is counted so") (q_tm7 141 (by decide +kernel))) (hK 21 (by decide)), (List.forall_mem_cons.mpr ⟨vk_R.of (hts (.stringRef "IsaForgeModel" 161 ".,:;=|()[]+-@") (q_tm8 127 (by decide +kernel))) (va_eqR (hF (.eq (.string "IsaForge$Text" 59) (.string "IsaForgeModel" 161)) (List.mem_of_getElem? (i := 781) (by decide +kernel))) (hK 2 (by decide))), (List.forall_mem_cons.mpr ⟨vk_R.of (hts (.stringRef "IsaForgeModel" 232 "word") (q_tm8 146 (by decide +kernel))) (va_eqR (hF (.eq (.string "IsaForge$Describer" 61) (.string "IsaForgeModel" 232)) (List.mem_of_getElem? (i := 790) (by decide +kernel))) (hK 3 (by decide))), (List.forall_mem_cons.mpr ⟨vk_R.of (hts (.stringRef "IsaForgeModel" 245 "ins") (q_tm8 193 (by decide +kernel))) (va_eqR (hF (.eq (.string "IsaForge$Describer" 98) (.string "IsaForgeModel" 245)) (List.mem_of_getElem? (i := 799) (by decide +kernel))) (hK 9 (by decide))), (List.forall_mem_cons.mpr ⟨vk_R.of (hts (.stringRef "IsaForgeModel" 278 ",()[]+-@") (q_tm8 210 (by decide +kernel))) (va_eqR (hF (.eq (.string "IsaForge$Describer" 228) (.string "IsaForgeModel" 278)) (List.mem_of_getElem? (i := 812) (by decide +kernel))) (hK 10 (by decide))), (List.forall_mem_cons.mpr ⟨vk_R.of (hts (.stringRef "IsaForgeModel" 250 "reg") (q_tm8 219 (by decide +kernel))) (va_eqR (hF (.eq (.string "IsaForge$Describer" 107) (.string "IsaForgeModel" 250)) (List.mem_of_getElem? (i := 820) (by decide +kernel))) (hK 4 (by decide))), (List.forall_mem_cons.mpr ⟨vk_R.of (hts (.stringRef "IsaForgeModel" 252 "num") (q_tm8 220 (by decide +kernel))) (va_eqR (hF (.eq (.string "IsaForge$Describer" 109) (.string "IsaForgeModel" 252)) (List.mem_of_getElem? (i := 828) (by decide +kernel))) (hK 5 (by decide))), (List.forall_mem_cons.mpr ⟨vk_R.of (hts (.stringRef "IsaForgeModel" 254 "int") (q_tm8 221 (by decide +kernel))) (va_eqR (hF (.eq (.string "IsaForge$Describer" 111) (.string "IsaForgeModel" 254)) (List.mem_of_getElem? (i := 836) (by decide +kernel))) (hK 6 (by decide))), (List.forall_mem_cons.mpr ⟨vk_R.of (hts (.stringRef "IsaForgeModel" 256 "rel") (q_tm8 222 (by decide +kernel))) (va_eqR (hF (.eq (.string "IsaForge$Describer" 113) (.string "IsaForgeModel" 256)) (List.mem_of_getElem? (i := 844) (by decide +kernel))) (hK 7 (by decide))), (List.forall_mem_cons.mpr ⟨vk_R.of (hts (.stringRef "IsaForgeModel" 258 "set") (q_tm8 223 (by decide +kernel))) (va_eqR (hF (.eq (.string "IsaForge$Describer" 115) (.string "IsaForgeModel" 258)) (List.mem_of_getElem? (i := 852) (by decide +kernel))) (hK 8 (by decide))), (List.forall_mem_cons.mpr ⟨vk_R.of (hts (.stringRef "IsaForgeModel" 304 "at") (q_tm9 16 (by decide +kernel))) (va_eqR (hF (.eq (.string "IsaForge$Program" 152) (.string "IsaForgeModel" 304)) (List.mem_of_getElem? (i := 859) (by decide +kernel))) (hK 13 (by decide))), (List.forall_mem_cons.mpr ⟨vk_R.of (hts (.stringRef "IsaForgeModel" 355 ".word ") (q_tm9 87 (by decide +kernel))) (va_eqR (hF (.eq (.string "IsaForge$Listing" 63) (.string "IsaForgeModel" 355)) (List.mem_of_getElem? (i := 870) (by decide +kernel))) (hK 17 (by decide))), (fun _ h => nomatch h)⟩)⟩)⟩)⟩)⟩)⟩)⟩)⟩)⟩)⟩)⟩)⟩)⟩)⟩)⟩)⟩)⟩)⟩)⟩)⟩)⟩)⟩)⟩)⟩)⟩)⟩)⟩)⟩)⟩)⟩)⟩)⟩)⟩)⟩)
theorem q_w_rf {C n d : String} {A : Nat → Prop} (h1 : (Cond.laysStatic C n d).before args s = true) (h2 : (Cond.initialized C).before args s = true) (h3 : (Cond.isRef (.static C n d)).before args s = true) (hA : ∀ a : Nat, a < s.heap.size → ¬ A a) : ∃ r : Option Nat, va_Z C n d (va_rf r) A s s.heap := by
  rcases va_Zqof h1 h2 h3 hA with h | ⟨t, h⟩
  · exact ⟨none, h⟩
  · exact ⟨some t, h⟩
def q_D0 (K V : Nat → Nat) (e : Nat) : q_Mem := fun a => match (List.range 22).find? (fun i => K i == a) with
  | some i => some (.inr (.inr (0, i)))
  | none => match (List.range 22).find? (fun i => V i == a) with
    | some i => some (.inr (.inr (1, i)))
    | none => if a = e then some (.inr (.inr (2, 0))) else none
theorem q_find {K : Nat → Nat} (hK : ∀ i j : Nat, i < 22 → j < 22 → K i = K j → i = j) {i : Nat} (hi : i < 22) : (List.range 22).find? (fun j => K j == K i) = some i := by
  cases h : (List.range 22).find? (fun j => K j == K i) with
  | none =>
    have := List.find?_eq_none.mp h i (List.mem_range.mpr hi)
    simp at this
  | some j =>
    have h1 := List.find?_some h
    have h2 : K j = K i := eq_of_beq h1
    have h3 := List.mem_range.mp (List.mem_of_find?_eq_some h)
    rw [hK j i h3 hi h2]
theorem q_findn {K : Nat → Nat} {a : Nat} (hK : ∀ i : Nat, i < 22 → ¬ K i = a) : (List.range 22).find? (fun j => K j == a) = none := by
  refine List.find?_eq_none.mpr fun i hi h => ?_
  exact hK i (List.mem_range.mp hi) (eq_of_beq h)
theorem q_world {sb : Nat} (hts : ∀ w ∈ lw_tbl, w.before #[Value.ref sb] s = true) (hgv : (Jvm.Cond.and given_1 narrow_1).before #[Value.ref sb] s = true) (l : Launch) (hl : l.stackTraces = false) : ∃ (E : q_Ev) (D : q_Mem), q_eL E = l ∧ q_eB E = s.heap.size ∧ va_K (q_eD E) vwCl (q_tys E) s ∧ q_GV E s ∧ q_GH E s s.heap ∧ q_Ho E D s.heap ∧ ∀ b, s.heap.size = b + 1 → q_Kp (q_kap E) b D := by
  have hF : ∀ w ∈ q_Fc, w.before #[Value.ref sb] s = true := flat_of_before _ hgv
  obtain ⟨A, hAd⟩ : ∃ A : Nat → Prop, A = fun q => s.heap.size ≤ q := ⟨_, rfl⟩
  have hA : ∀ a : Nat, a < s.heap.size → ¬ A a := fun a ha => by rw [hAd]; exact Nat.not_le.mpr ha
  obtain ⟨G, T, hKk⟩ := q_Kst hts
  obtain ⟨K, V, hS, hev, hVi, hKV, hsz⟩ := q_Sof hF hA
  obtain ⟨mi, hmi⟩ := va_Mi.of (hF (.isRef (.mirror "[Ljava/lang/Object;")) (List.mem_of_getElem? (i := 347) (by decide +kernel)))
  obtain ⟨eE, cE, e1, e2, e3, e4⟩ := q_len_sz (N := 0) (by decide) (va_eqt (hF (.eq (.length (.static "java/util/ArrayList" "DEFAULTCAPACITY_EMPTY_ELEMENTDATA" "[Ljava/lang/Object;")) (.int 0)) (List.mem_of_getElem? (i := 7) (by decide +kernel))))
  obtain ⟨e5, e6⟩ := Cond.arrayOf_spec (hF (.arrayOf (.static "java/util/ArrayList" "DEFAULTCAPACITY_EMPTY_ELEMENTDATA" "[Ljava/lang/Object;") (.object "java/lang/Object")) (List.mem_of_getElem? (i := 5) (by decide +kernel))) e1 e3
  have zE := va_Zof (A := A) (hts (.laysStatic "java/util/ArrayList" "DEFAULTCAPACITY_EMPTY_ELEMENTDATA" "[Ljava/lang/Object;") (q_tm2 18 (by decide +kernel))) (hts (.initialized "java/util/ArrayList") (q_tm1 11 (by decide +kernel))) e1 hA
  have zC := va_Zof (A := A) (hts (.laysStatic "java/lang/String" "COMPACT_STRINGS" "Z") (q_tm3 21 (by decide +kernel))) (hts (.initialized "java/lang/String") (q_tm1 18 (by decide +kernel))) (va_eqt (hF (.eq (.static "java/lang/String" "COMPACT_STRINGS" "Z") (.int 1)) (List.mem_of_getElem? (i := 10) (by decide +kernel)))) hA
  have u1 := hts (.laysStatic Bundle.tN "UNASSIGNED_STACK" Bundle.steD) (q_tm2 134 (by decide +kernel))
  have u2 := hts (.initialized Bundle.tN) (q_tm1 13 (by decide +kernel))
  have u3 := hF (.isRef (.static Bundle.tN "UNASSIGNED_STACK" Bundle.steD)) (List.mem_of_getElem? (i := 8) (by decide +kernel))
  have v1 := hts (.laysStatic Bundle.tN "SUPPRESSED_SENTINEL" Bundle.listD) (q_tm2 136 (by decide +kernel))
  have v3 := hF (.isRef (.static Bundle.tN "SUPPRESSED_SENTINEL" Bundle.listD)) (List.mem_of_getElem? (i := 9) (by decide +kernel))
  obtain ⟨rU, zU⟩ := q_w_rf (A := A) u1 u2 u3 hA
  obtain ⟨rS, zS⟩ := q_w_rf (A := A) v1 u2 v3 hA
  obtain ⟨rF, zF⟩ := q_w_rf (A := A) (hts (.laysStatic "jdk/internal/util/Preconditions" "SIOOBE_FORMATTER" "Ljava/util/function/BiFunction;") (q_tm3 64 (by decide +kernel))) (hts (.initialized "jdk/internal/util/Preconditions") (q_tm1 22 (by decide +kernel))) (hF (.isRef (.static "jdk/internal/util/Preconditions" "SIOOBE_FORMATTER" "Ljava/util/function/BiFunction;")) (List.mem_of_getElem? (i := 11) (by decide +kernel))) hA
  have hKi := hS.2
  have ht22 : q_txN = 22 := rfl
  have eEK : ∀ i : Nat, i < 22 → ¬ K i = eE := fun i hi h => by
    obtain ⟨⟨c, c1, c2⟩, -⟩ := hsz i hi
    rw [h] at c1
    cases c1.symm.trans e3
    omega
  have eEV : ∀ i : Nat, i < 22 → ¬ V i = eE := fun i hi h => by
    obtain ⟨-, c, c1, c2⟩ := hsz i hi
    rw [h] at c1
    cases c1.symm.trans e3
    omega
  refine ⟨(l, G, T, s.heap.size, K, V, eE, rU, rS, mi, rF), q_D0 K V eE, rfl, rfl, hKk, ⟨q_w_NW hts, q_w_SR hts hF hev, q_w_AO hts, q_w_NC hF, hmi, va_Dc.of (hts _ (q_tm9 143 (by decide +kernel))), q_w_CW hts, hl⟩, ?_, ?_, ?_⟩
  · have hq : q_A (l, G, T, s.heap.size, K, V, eE, rU, rS, mi, rF) = A := by rw [hAd]; rfl
    unfold q_GH q_Em
    rw [hq]
    exact ⟨hS, zC, zE, vx_Zqof u1 u2 u3 hA, vx_Zqof v1 u2 v3 hA, zU, zS, ⟨cE, e3, e5, e6, e4, hA _ (Array.getElem?_eq_some_iff.mp e3).1⟩, zF⟩
  · intro a c hc
    unfold q_D0 at hc
    split at hc
    · rename_i i h
      cases hc
      have h9 := List.find?_some h
      have h10 : K i = a := eq_of_beq h9
      exact Or.inl ⟨rfl, List.mem_range.mp (List.mem_of_find?_eq_some h), h10.symm⟩
    · split at hc
      · rename_i i h
        cases hc
        have h9 := List.find?_some h
        have h10 : V i = a := eq_of_beq h9
        exact Or.inr (Or.inl ⟨rfl, List.mem_range.mp (List.mem_of_find?_eq_some h), h10.symm⟩)
      · split at hc
        · rename_i h
          cases hc
          exact Or.inr (Or.inr ⟨rfl, h⟩)
        · cases hc
  · intro b hb
    have kk : ∀ i : Nat, i < 22 → q_kap (l, G, T, s.heap.size, K, V, eE, rU, rS, mi, rF) i = K i := fun i hi => by
      unfold q_kap
      rw [if_neg (by omega), if_neg (by omega), if_neg (by omega), if_neg (by omega), if_neg (by omega), if_pos (by omega)]
    have kv : ∀ i : Nat, i < 22 → q_kap (l, G, T, s.heap.size, K, V, eE, rU, rS, mi, rF) (200 + i) = V i := fun i hi => by
      unfold q_kap
      rw [if_neg (by omega), if_neg (by omega), if_neg (by omega), if_neg (by omega), if_neg (by omega), if_neg (by omega), Nat.add_sub_cancel_left]
    have ke : q_kap (l, G, T, s.heap.size, K, V, eE, rU, rS, mi, rF) 99 = eE := rfl
    refine ⟨fun i hi => ?_, ?_, ?_⟩
    · have hi' : i < 22 := hi
      rw [kk i hi', kv i hi']
      obtain ⟨⟨c, c1, c2⟩, d, d1, d2⟩ := hsz i hi'
      have l1 := (Array.getElem?_eq_some_iff.mp c1).1
      have l2 := (Array.getElem?_eq_some_iff.mp d1).1
      refine ⟨?_, by omega, ?_, by omega⟩
      · unfold q_D0
        rw [q_find hKi hi']
      · unfold q_D0
        rw [q_findn (fun j hj => hKV j i hj hi'), q_find hVi hi']
    · rw [ke]
      unfold q_D0
      rw [q_findn eEK, q_findn eEV]
      exact if_pos rfl
    · rw [ke]
      have := (Array.getElem?_eq_some_iff.mp e3).1
      omega
end QWO
