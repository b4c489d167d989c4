/-! states: pairs of 16 bits as one number; how many unlike ones a list has -/
def pz (s : Int32 × Int32) : Prop := (∃ n, n < 65536 ∧ s.1 = nI n) ∧ ∃ n, n < 65536 ∧ s.2 = nI n
def pe (s : Int32 × Int32) : Int32 := (s.1 <<< ((16 : Int32) &&& 31)) ||| s.2
theorem pe_or {a b : Nat} (ha : a < 65536) (hb : b < 65536) : nI (a * 2 ^ 16) ||| nI b = nI (a * 2 ^ 16 + b) := by
  apply Int32.toBitVec_inj.mp
  rw [Int32.toBitVec_or]
  show BitVec.ofNat 32 (a * 2 ^ 16) ||| BitVec.ofNat 32 b = BitVec.ofNat 32 (a * 2 ^ 16 + b)
  apply BitVec.eq_of_toNat_eq
  rw [BitVec.toNat_or, BitVec.toNat_ofNat, BitVec.toNat_ofNat, BitVec.toNat_ofNat, Nat.mod_eq_of_lt (by omega), Nat.mod_eq_of_lt (by omega), Nat.mod_eq_of_lt (by omega), Nat.mul_comm a]
  exact (Nat.two_pow_add_eq_or_of_lt (i := 16) (by omega) a).symm
theorem pe_n {s : Int32 × Int32} {a b : Nat} (ha : a < 65536) (hb : b < 65536) (h1 : s.1 = nI a) (h2 : s.2 = nI b) : pe s = nI (a * 2 ^ 16 + b) := by
  unfold pe
  rw [h1, h2, pk_shlN ((16 : Int32) &&& 31) 16 (by decide) (by omega), pe_or ha hb]
theorem pe_hi {s : Int32 × Int32} (h : pz s) : ow_ushr (pe s) 16 = s.1 := by
  obtain ⟨⟨a, ha, h1⟩, b, hb, h2⟩ := h
  rw [pe_n ha hb h1 h2, h1]
  unfold ow_ushr
  rw [pk_ushrN (n := a * 2 ^ 16 + b) (by omega) 16 16 (by decide)]
  congr 1
  omega
theorem pe_lo {s : Int32 × Int32} (h : pz s) : pe s &&& 65535 = s.2 := by
  obtain ⟨⟨a, ha, h1⟩, b, hb, h2⟩ := h
  rw [pe_n ha hb h1 h2, h2, pk_andN (n := a * 2 ^ 16 + b) (by omega) 16 (by decide)]
  congr 1
  omega
theorem pz_mk : ∀ b, b < 17 → (h_mask (nI b)).toBitVec.toNat = 2 ^ b - 1 := by decide +kernel
theorem pz_mask {b : Nat} (hb : b ≤ 16) (v : Int32) : ∃ n, n < 65536 ∧ v &&& h_mask (nI b) = nI n := by
  obtain ⟨j, hj, e⟩ := pk_andE v b (pz_mk b (by omega))
  have : 2 ^ b ≤ 2 ^ 16 := Nat.pow_le_pow_right (by decide) hb
  exact ⟨j, by omega, e⟩
theorem pz_step {s : Int32 × Int32} (h : pz s) (T : Nat → List Nat) (n : Int32) (k mo : Nat) {b : Nat} (hb : b ≤ 16) (c : Int32) (p : Nat) : pz (h_step T n k mo (nI b) c p s) := by
  unfold h_step
  by_cases e : h_sees k mo p = true
  · rw [if_pos e]; exact ⟨pz_mask hb _, pz_mask hb _⟩
  · rw [if_neg e]; exact h
theorem gd_el {α : Type} {l : List α} (d : α) {i : Nat} (h : i < l.length) : l.getD i d = l[i] := by
  rw [List.getD_eq_getElem?_getD, List.getElem?_eq_getElem h]; rfl
theorem gd_ar {α : Type} (l l' : List α) (d : α) {i : Nat} (h : l.length ≤ i) : (l ++ l').getD i d = l'.getD (i - l.length) d := by
  rw [List.getD_eq_getElem?_getD, List.getElem?_append_right h, ← List.getD_eq_getElem?_getD]
theorem gd_al {α : Type} (l l' : List α) (d : α) {i : Nat} (h : i < l.length) : (l ++ l').getD i d = l.getD i d := by
  rw [List.getD_eq_getElem?_getD, List.getElem?_append_left h, ← List.getD_eq_getElem?_getD]
def ins : List Int32 → List Int32 → List Int32
  | acc, [] => acc
  | acc, x :: l => if x ∈ acc then ins acc l else ins (acc ++ [x]) l
theorem ins_mem : ∀ (l acc : List Int32) (y : Int32), y ∈ ins acc l ↔ y ∈ acc ∨ y ∈ l := by
  intro l
  induction l with
  | nil => intro acc y; rw [ins]; simp
  | cons x l ih =>
    intro acc y
    rw [ins]
    by_cases c : x ∈ acc
    · rw [if_pos c, ih]
      constructor
      · rintro (h | h)
        · exact Or.inl h
        · exact Or.inr (List.mem_cons_of_mem _ h)
      · rintro (h | h)
        · exact Or.inl h
        · rcases List.mem_cons.mp h with h | h
          · exact Or.inl (h ▸ c)
          · exact Or.inr h
    · rw [if_neg c, ih, List.mem_append, List.mem_singleton, List.mem_cons, or_assoc]
theorem ins_nodup : ∀ (l acc : List Int32), acc.Nodup → (ins acc l).Nodup := by
  intro l
  induction l with
  | nil => intro acc h; exact h
  | cons x l ih =>
    intro acc h
    rw [ins]
    by_cases c : x ∈ acc
    · rw [if_pos c]; exact ih acc h
    · rw [if_neg c]
      refine ih _ (List.nodup_append.mpr ⟨h, List.nodup_cons.mpr ⟨List.not_mem_nil, List.nodup_nil⟩, fun a ha b hb e => ?_⟩)
      rw [List.mem_singleton] at hb
      subst hb
      subst e
      exact c ha
theorem ins_app : ∀ (l l' acc : List Int32), ins acc (l ++ l') = ins (ins acc l) l' := by
  intro l
  induction l with
  | nil => intro l' acc; rfl
  | cons x l ih =>
    intro l' acc
    rw [List.cons_append, ins, ins]
    by_cases c : x ∈ acc
    · rw [if_pos c, if_pos c, ih]
    · rw [if_neg c, if_neg c, ih]
theorem ins_len_le : ∀ (l acc : List Int32), (ins acc l).length ≤ acc.length + l.length := by
  intro l
  induction l with
  | nil => intro acc; exact Nat.le_refl _
  | cons x l ih =>
    intro acc
    rw [ins]
    by_cases c : x ∈ acc
    · rw [if_pos c]; have := ih acc; rw [List.length_cons]; omega
    · rw [if_neg c]; have := ih (acc ++ [x]); rw [List.length_append, List.length_singleton] at this; rw [List.length_cons]; omega
theorem ins_same {l l' : List Int32} (h : ∀ y, y ∈ l ↔ y ∈ l') : (ins [] l).length = (ins [] l').length := by
  have h1 : ∀ y, y ∈ ins [] l ↔ y ∈ ins [] l' := fun y => by
    rw [ins_mem, ins_mem, h y]
  exact ((List.perm_ext_iff_of_nodup (ins_nodup l [] List.nodup_nil) (ins_nodup l' [] List.nodup_nil)).mpr h1).length_eq
theorem s_up_in (fu : Nat) (k4 : Int32 → Int32 → Int32 → ow_S → Option (Int32 × ow_S)) (x1 x2 : Int32) {i : Nat} (hi : i < 259) {c : Nat → Int32} {σ : ow_S} (h : ∀ p, p ≤ i → σ.1 14 p = c p) : ∀ (q j fn : Nat), j + q = i → q < fn → L_X8_unlikePairs_15 fu k4 fn x1 x2 (nI i) 0 (nI j) σ = if (∃ z, z < i ∧ j ≤ z ∧ c z = c i) then k4 x1 x2 (nI (i + 1)) σ else k4 x1 (x2 + 1) (nI (i + 1)) σ := by
  intro q
  induction q with
  | zero =>
    intro j fn hj hf
    obtain ⟨fn, rfl⟩ : ∃ q, fn = q + 1 := ⟨fn - 1, by omega⟩
    rw [L_X8_unlikePairs_15, if_pos (by rw [n_le (by omega) (by omega)]; omega), L_X8_unlikePairs_55, if_pos rfl, e_let, L_X8_unlikePairs_63, e_let, show nI i + (1 : Int32) = nI (i + 1) from n_add i 1, if_neg]
    rintro ⟨z, a, b, -⟩; omega
  | succ q ih =>
    intro j fn hj hf
    obtain ⟨fn, rfl⟩ : ∃ q, fn = q + 1 := ⟨fn - 1, by omega⟩
    rw [L_X8_unlikePairs_15, if_neg (by rw [n_le (by omega) (by omega)]; omega), if_pos rfl, e_ckn _ (by omega) (by omega), e_ckn _ (by omega) (by omega), n_cl (a := j) (by omega), n_cl (a := i) (by omega), h j (by omega), h i (by omega)]
    simp only [L_X8_unlikePairs_47, e_let, show nI j + (1 : Int32) = nI (j + 1) from n_add j 1]
    by_cases e : c j = c i
    · rw [if_pos e, if_pos ⟨j, by omega, by omega, e⟩]
      obtain ⟨fn, rfl⟩ : ∃ q, fn = q + 1 := ⟨fn - 1, by omega⟩
      have fin : L_X8_unlikePairs_55 fu k4 x1 x2 (nI i) 1 σ = k4 x1 x2 (nI (i + 1)) σ := by
        rw [L_X8_unlikePairs_55, if_neg (by decide), L_X8_unlikePairs_63, e_let, show nI i + (1 : Int32) = nI (i + 1) from n_add i 1]
      rw [L_X8_unlikePairs_15, if_neg (show ¬ (1 : Int32) = 0 by decide), fin]
      exact ite_self _
    · rw [if_neg e, ih (j + 1) fn (by omega) (by omega)]
      by_cases d : ∃ z, z < i ∧ j + 1 ≤ z ∧ c z = c i
      · obtain ⟨z, a, b, w⟩ := d
        rw [if_pos ⟨z, a, b, w⟩, if_pos ⟨z, a, by omega, w⟩]
      · rw [if_neg d, if_neg]
        rintro ⟨z, a, b, w⟩
        by_cases ez : z = j
        · subst ez; exact e w
        · exact d ⟨z, a, by omega, w⟩
theorem s_up_out (fu : Nat) (hfu : 1000 ≤ fu) {C : List Int32} (hC : C.length ≤ 259) {σ : ow_S} (h : ∀ p, p < C.length → σ.1 14 p = C.getD p 0) : ∀ (ls : List Int32) (i fn : Nat), C = C.take i ++ ls → i + ls.length = C.length → ls.length < fn → L_X8_unlikePairs_4 fu fn (nI C.length) (nI (ins [] (C.take i)).length) (nI i) σ = some (nI (ins [] C).length, σ) := by
  intro ls
  induction ls with
  | nil =>
    intro i fn hc hi hf
    obtain ⟨fn, rfl⟩ : ∃ q, fn = q + 1 := ⟨fn - 1, by omega⟩
    rw [List.append_nil] at hc
    have hi' : i = C.length := by simpa using hi
    rw [L_X8_unlikePairs_4, if_pos (by rw [n_le (by omega) (by omega)]; omega), ← hc]
  | cons x ls ih =>
    intro i fn hc hi hf
    obtain ⟨fn, rfl⟩ : ∃ q, fn = q + 1 := ⟨fn - 1, by omega⟩
    rw [List.length_cons] at hi hf
    have hlt : i < C.length := by omega
    have hx : C.getD i 0 = x := by
      rw [hc, gd_ar _ _ _ (by rw [List.length_take]; omega), List.length_take, Nat.min_eq_left (by omega), Nat.sub_self]; rfl
    have ht : C.take (i + 1) = C.take i ++ [x] := by
      rw [List.take_succ_eq_append_getElem hlt]
      congr 2
      rw [← hx, gd_el _ hlt]
    have hmem : (∃ z, z < i ∧ 0 ≤ z ∧ C.getD z 0 = C.getD i 0) ↔ x ∈ ins [] (C.take i) := by
      rw [ins_mem, hx]
      constructor
      · rintro ⟨z, a, -, b⟩
        right
        rw [List.mem_iff_getElem]
        refine ⟨z, by rw [List.length_take]; omega, ?_⟩
        rw [List.getElem_take, ← b, gd_el _ (by omega)]
      · rintro (a | a)
        · exact absurd a List.not_mem_nil
        · obtain ⟨z, z1, z2⟩ := List.mem_iff_getElem.mp a
          rw [List.length_take] at z1
          refine ⟨z, by omega, by omega, ?_⟩
          rw [List.getElem_take] at z2
          rw [gd_el _ (by omega), z2]
    have hih := ih (i + 1) fn (by rw [ht, List.append_assoc]; exact hc) (by omega) (by omega)
    rw [ht, ins_app, ins] at hih
    rw [L_X8_unlikePairs_4, if_neg (by rw [n_le (by omega) (by omega)]; omega), show (0 : Int32) = nI 0 from rfl, show L_X8_unlikePairs_15 fu (L_X8_unlikePairs_4 fu fn) fu (nI C.length) (nI (ins [] (C.take i)).length) (nI i) (nI 0) (nI 0) σ = _ from s_up_in fu (L_X8_unlikePairs_4 fu fn) _ _ (show i < 259 by omega) (c := fun p => C.getD p 0) (fun p hp => h p (by omega)) i 0 fu (by omega) (by omega)]
    by_cases c : x ∈ ins [] (C.take i)
    · rw [if_pos c, ins] at hih
      rw [if_pos (hmem.mpr c)]; exact hih
    · rw [if_neg c, ins, List.length_append, List.length_singleton] at hih
      rw [if_neg (fun z => c (hmem.mp z)), show nI (ins [] (C.take i)).length + (1 : Int32) = nI ((ins [] (C.take i)).length + 1) from n_add _ 1]; exact hih
theorem s_X8_unlikePairs (fu : Nat) (hfu : 1000 ≤ fu) {C : List Int32} (hC : C.length ≤ 259) {σ : ow_S} (h : ∀ p, p < C.length → σ.1 14 p = C.getD p 0) : f_X8_unlikePairs fu (nI C.length) σ = some (nI (ins [] C).length, σ) := by
  rw [f_X8_unlikePairs]
  exact s_up_out fu hfu hC h C 0 fu rfl (by omega) (by omega)
