/-! states: the model's pairs, number by number -/
def m_ar (M : ow_S) (acc : List Int32) : Prop := M.1 56 40 = nI acc.length ∧ ∀ z, z < acc.length → M.1 75 z = acc.getD z 0
def m_fp (M M' : ow_S) : Prop := (∀ c, c ≠ 72 → c ≠ 73 → c ≠ 75 → c ≠ 56 → M'.1 c = M.1 c) ∧ ∀ z, z ≠ 37 → z ≠ 38 → z ≠ 40 → M'.1 56 z = M.1 56 z
theorem m_fp.rf (M : ow_S) : m_fp M M := ⟨fun _ _ _ _ _ => rfl, fun _ _ _ _ => rfl⟩
theorem m_fp.tr {a b c : ow_S} (p : m_fp a b) (q : m_fp b c) : m_fp a c := ⟨fun k h1 h2 h3 h4 => (q.1 k h1 h2 h3 h4).trans (p.1 k h1 h2 h3 h4), fun z h1 h2 h3 => (q.2 z h1 h2 h3).trans (p.2 z h1 h2 h3)⟩
theorem m_fp.sc {M M' : ow_S} (w : m_fp M M') : msc M M' := ⟨fun c hc => w.1 c (by omega) (by omega) (by omega) (by omega), fun z hz => w.2 z (by omega) (by omega) (by omega)⟩
theorem m_fw.fp {M M' : ow_S} (w : m_fw M M') : m_fp M M' := ⟨fun c h1 h2 _ h4 => w.1 c h1 h2 h4, fun z h1 h2 _ => w.2 z h1 h2⟩
theorem m_at.fp {M M' : ow_S} {P law j k mo : Nat} {b f s : Int32} {T : Nat → List Nat} (h : m_at M P law j k mo b f s T) (w : m_fp M M') : m_at M' P law j k mo b f s T := ⟨(w.2 0 (by decide) (by decide) (by decide)).trans h.1, (w.2 12 (by decide) (by decide) (by decide)).trans h.2.1, h.2.2.1.eq (w.1 62 (by decide) (by decide) (by decide) (by decide)) (w.1 63 (by decide) (by decide) (by decide) (by decide)), h.2.2.2.eq (w.1 58 (by decide) (by decide) (by decide) (by decide)) (w.1 59 (by decide) (by decide) (by decide) (by decide)) (w.1 60 (by decide) (by decide) (by decide) (by decide))⟩
theorem s_pu_loop (fu : Nat) {acc : List Int32} (hl : acc.length < 260) {M : ow_S} (h : m_ar M acc) (x : Int32) : ∀ (q i fn : Nat), i + q = acc.length → q < fn → L_X9_pairsUp_15 fu fn x (nI i) M = some (if (∃ z, z < acc.length ∧ i ≤ z ∧ acc.getD z 0 = x) then M else ow_sI (ow_sI M 75 acc.length x) 56 40 (nI (acc.length + 1))) := by
  intro q
  induction q with
  | zero =>
    intro i fn hi hf
    obtain ⟨fn, rfl⟩ : ∃ q, fn = q + 1 := ⟨fn - 1, by omega⟩
    rw [L_X9_pairsUp_15, h.1, if_pos (by rw [n_le (by omega) (by omega)]; omega), e_ckn _ (by omega) hl, n_cl (a := acc.length) (by omega), e_let, e_let, g_k _ _ (show 56 ≠ 75 by decide), h.1, show nI acc.length + (1 : Int32) = nI (acc.length + 1) from n_add _ 1, if_neg]
    rintro ⟨z, a, b, -⟩; omega
  | succ q ih =>
    intro i fn hi hf
    obtain ⟨fn, rfl⟩ : ∃ q, fn = q + 1 := ⟨fn - 1, by omega⟩
    rw [L_X9_pairsUp_15, h.1, if_neg (by rw [n_le (by omega) (by omega)]; omega), e_ckn _ (by omega) (by omega), n_cl (a := i) (by omega), h.2 i (by omega)]
    by_cases c : acc.getD i 0 = x
    · rw [if_pos c, if_pos ⟨i, by omega, by omega, c⟩]
    · rw [if_neg c, e_let, show nI i + (1 : Int32) = nI (i + 1) from n_add i 1, ih (i + 1) fn (by omega) (by omega)]
      by_cases d : ∃ z, z < acc.length ∧ i + 1 ≤ z ∧ acc.getD z 0 = x
      · obtain ⟨z, a, b, w⟩ := d
        rw [if_pos ⟨z, a, b, w⟩, if_pos ⟨z, a, by omega, w⟩]
      · rw [if_neg d, if_neg]
        rintro ⟨z, a, b, w⟩
        by_cases ez : z = i
        · subst ez; exact c w
        · exact d ⟨z, a, by omega, w⟩
theorem s_pairsUp (fu : Nat) (hfu : 1000 ≤ fu) {acc : List Int32} (hl : acc.length < 260) {M : ow_S} (h : m_ar M acc) {u : Int32 × Int32} (h1 : M.1 56 37 = u.1) (h2 : M.1 56 38 = u.2) : ∃ M', f_X9_pairsUp fu M = some M' ∧ m_ar M' (ins acc [pe u]) ∧ m_fp M M' := by
  have hp := s_pu_loop fu hl h (pe u) acc.length 0 fu (by omega) (by omega)
  have hm : (∃ z, z < acc.length ∧ 0 ≤ z ∧ acc.getD z 0 = pe u) ↔ pe u ∈ acc := by
    constructor
    · rintro ⟨z, a, -, b⟩
      rw [← b, gd_el _ a]; exact List.getElem_mem _
    · intro a
      obtain ⟨z, z1, z2⟩ := List.mem_iff_getElem.mp a
      exact ⟨z, z1, by omega, by rw [gd_el _ z1]; exact z2⟩
  rw [f_X9_pairsUp, e_let, h1, h2]
  by_cases c : pe u ∈ acc
  · rw [if_pos (hm.mpr c)] at hp
    rw [ins, if_pos c, ins]
    exact ⟨M, hp, h, m_fp.rf M⟩
  · rw [if_neg (fun z => c (hm.mp z))] at hp
    rw [ins, if_neg c, ins]
    refine ⟨_, hp, ⟨?_, fun z hz => ?_⟩, fun z a1 a2 a3 a4 => by rw [g_k _ _ a4, g_k _ _ a3], fun z a1 a2 a3 => by rw [g_j _ _ a3, g_k _ _ (show 56 ≠ 75 by decide)]⟩
    · rw [g_same, List.length_append, List.length_singleton]
    · rw [List.length_append, List.length_singleton] at hz
      rw [g_k _ _ (show 75 ≠ 56 by decide)]
      by_cases e : z = acc.length
      · subst e
        rw [g_same, gd_ar _ _ _ (Nat.le_refl _), Nat.sub_self]; rfl
      · rw [g_j _ _ e, gd_al _ _ _ (by omega)]; exact h.2 z (by omega)
def p_F (T : Nat → List Nat) (P k mo b few : Nat) (s0 : Int32 × Int32) : Nat → Nat → Int32 × Int32
  | 0, _ => s0
  | m + 1, num => h_step T (nI P) k mo (nI b) (nI (num / few ^ m % few + 1)) m (p_F T P k mo b few s0 m num)
theorem s_dig (fu : Nat) (hfu : 1000 ≤ fu) (k49 : Int32 → Int32 → Int32 → Int32 → ow_S → Option (Int32 × ow_S)) (k58 : Int32 → Int32 → Int32 → Int32 → Int32 → ow_S → Option (Int32 × ow_S)) {P law j k mo b few many num : Nat} {f s x3 : Int32} {T : Nat → List Nat} {s0 : Int32 × Int32} (hl : law < 6) (h5 : j < 5) (hfew : few ≤ 6) (hf0 : 0 < few) (hmany : many ≤ 3) (hnum : num < 100000) {acc : List Int32} (hacc : acc.length < 260) : ∀ (q p fn : Nat) (M : ow_S), m_at M P law j k mo (nI b) f s T → m_ar M acc → (M.1 56 37, M.1 56 38) = p_F T P k mo b few s0 p num → p + q = many → q < fn → ∃ M', L_X9_states_82 fu k49 k58 fn (nI j) (nI few) x3 (nI many) (nI num) (nI (num / few ^ p)) (nI p) M = k58 (nI j) (nI few) x3 (nI many) (nI (num + 1)) M' ∧ m_ar M' (ins acc [pe (p_F T P k mo b few s0 many num)]) ∧ m_fp M M' := by
  intro q
  induction q with
  | zero =>
    intro p fn M hm hA hN hp hf
    obtain ⟨fn, rfl⟩ : ∃ q, fn = q + 1 := ⟨fn - 1, by omega⟩
    have hpm : p = many := by omega
    subst hpm
    obtain ⟨M1, a1, a2, a3⟩ := s_pairsUp fu hfu hacc hA (u := p_F T P k mo b few s0 p num) (congrArg Prod.fst hN) (congrArg Prod.snd hN)
    refine ⟨M1, ?_, a2, a3⟩
    rw [L_X9_states_82, if_pos (by rw [n_le (by omega) (by omega)]; omega), a1, e_cv, e_let, show nI num + (1 : Int32) = nI (num + 1) from n_add _ 1]
  | succ q ih =>
    intro p fn M hm hA hN hp hf
    obtain ⟨fn, rfl⟩ : ∃ q, fn = q + 1 := ⟨fn - 1, by omega⟩
    have hr : num / few ^ p < 100000 := Nat.lt_of_le_of_lt (Nat.div_le_self _ _) hnum
    have hr2 := Nat.mod_lt (num / few ^ p) hf0
    have e0 : ¬ nI few = (0 : Int32) := by rw [show (0 : Int32) = nI 0 from rfl, n_eq (by omega) (by decide)]; omega
    obtain ⟨M1, a1, a2, a3⟩ := s_X9_comes fu hfu hl hm.2.1 hm.2.2.1 hm.2.2.2 h5 (p := p) (by omega) (nI (num / few ^ p % few + 1))
    rw [hm.1, hN] at a2
    have hA1 : m_ar M1 acc := ⟨(a3.2 40 (by decide) (by decide)).trans hA.1, fun z hz => by rw [a3.1 75 (by decide) (by decide) (by decide)]; exact hA.2 z hz⟩
    obtain ⟨M2, b1, b2, b3⟩ := ih (p + 1) fn M1 (hm.fp a3.fp) hA1 a2 (by omega) (by omega)
    refine ⟨M2, ?_, b2, a3.fp.tr b3⟩
    rw [L_X9_states_82, if_neg (by rw [n_le (by omega) (by omega)]; omega), e_ck _ e0, n_rem (by omega) (by omega) hf0, show nI (num / few ^ p % few) + (1 : Int32) = nI (num / few ^ p % few + 1) from n_add _ 1, a1, e_cv, e_ck _ e0, e_let, n_div (by omega) (by omega) hf0, e_let, show nI p + (1 : Int32) = nI (p + 1) from n_add _ 1, Nat.div_div_eq_div_mul, ← Nat.pow_succ]
    exact b1
theorem s_pow (fu : Nat) {few many : Nat} (hm : many ≤ 4) (M : ow_S) : ∀ (q i fn : Nat), i + q = many → q < fn → L_X9_powerOf_5 fu fn (nI few) (nI many) (nI (few ^ i)) (nI i) M = some (nI (few ^ many), M) := by
  intro q
  induction q with
  | zero =>
    intro i fn hi hf
    obtain ⟨fn, rfl⟩ : ∃ q, fn = q + 1 := ⟨fn - 1, by omega⟩
    have : i = many := by omega
    subst this
    rw [L_X9_powerOf_5, if_pos (by rw [n_le (by omega) (by omega)]; omega)]
  | succ q ih =>
    intro i fn hi hf
    obtain ⟨fn, rfl⟩ : ∃ q, fn = q + 1 := ⟨fn - 1, by omega⟩
    rw [L_X9_powerOf_5, if_neg (by rw [n_le (by omega) (by omega)]; omega), e_let, e_let, n_mul, ← Nat.pow_succ, show nI i + (1 : Int32) = nI (i + 1) from n_add _ 1]
    exact ih (i + 1) fn (by omega) (by omega)
theorem p_pw : ∀ few, few < 7 → ∀ m, m < 4 → few ^ m ≤ 216 := by decide +kernel
theorem s_begins (fu : Nat) {P law j k mo b : Nat} {f s : Int32} {T : Nat → List Nat} {M : ow_S} (h5 : j < 5) (hm : m_at M P law j k mo (nI b) f s T) : ∃ M', f_X9_beginsOn fu (nI j) M = some M' ∧ (M'.1 56 37, M'.1 56 38) = (f &&& h_mask (nI b), s &&& h_mask (nI b)) ∧ m_fw M M' := by
  have e31 : (3 : Int32) * nI j + (1 : Int32) = nI (3 * j + 1) := by
    rw [show (3 : Int32) * nI j = nI (3 * j) from n_mul 3 j]; exact n_add _ 1
  have e32 : (3 : Int32) * nI j + (2 : Int32) = nI (3 * j + 2) := by
    rw [show (3 : Int32) * nI j = nI (3 * j) from n_mul 3 j]; exact n_add _ 2
  obtain ⟨a0, a1, a2, a3, a4, -⟩ := hm.2.2.2
  rw [f_X9_beginsOn, e31, e_ckn _ (by omega) (by omega), n_cl (a := 3 * j + 1) (by omega), s_X9_maskOf fu h5, e_cl, e_let, e32, e_ckn _ (by omega) (by omega), n_cl (a := 3 * j + 2) (by omega), s_X9_maskOf fu h5, e_cl, e_let, a2, a3, g_k _ _ (show 60 ≠ 56 by decide), a2, a4]
  refine ⟨_, rfl, ?_, fun c h1 h2 h3 => by rw [g_k _ _ h3, g_k _ _ h3], fun z h1 h2 => by rw [g_j _ _ h2, g_j _ _ h1]⟩
  rw [g_same, g_j _ _ (by decide), g_same]
theorem s_num (fu : Nat) (hfu : 1000 ≤ fu) (k49 : Int32 → Int32 → Int32 → Int32 → ow_S → Option (Int32 × ow_S)) {P law j k mo b few many : Nat} {f s x3 : Int32} {T : Nat → List Nat} (hl : law < 6) (h5 : j < 5) (hfew : few ≤ 6) (hf0 : 0 < few) (hmany : many ≤ 3) {sg : Nat} (hsg : sg + few ^ many ≤ 259) : ∀ (q num fn : Nat) (acc : List Int32) (M : ow_S), m_at M P law j k mo (nI b) f s T → m_ar M acc → acc.length ≤ sg + num → num + q = few ^ many → q < fn → ∃ M', L_X9_states_58 fu k49 fn (nI j) (nI few) x3 (nI many) (nI num) M = k49 (nI j) (nI few) x3 (nI (many + 1)) M' ∧ m_ar M' (ins acc ((List.range' num q).map (fun x => pe (p_F T P k mo b few (f &&& h_mask (nI b), s &&& h_mask (nI b)) many x)))) ∧ m_fp M M' := by
  have hpw := p_pw few (by omega) many (by omega)
  intro q
  induction q with
  | zero =>
    intro num fn acc M hm hA hac hn hf
    obtain ⟨fn, rfl⟩ : ∃ q, fn = q + 1 := ⟨fn - 1, by omega⟩
    rw [List.range'_zero, List.map_nil, ins]
    refine ⟨M, ?_, hA, m_fp.rf M⟩
    rw [L_X9_states_58, f_X9_powerOf, show (1 : Int32) = nI (few ^ 0) from rfl, show (0 : Int32) = nI 0 from rfl, s_pow fu (by omega) M many 0 fu (by omega) (by omega), e_cl, if_pos (by rw [n_le (by omega) (by omega)]; omega), e_let, show nI (few ^ 0) = (1 : Int32) from rfl, show nI many + (1 : Int32) = nI (many + 1) from n_add _ 1]
  | succ q ih =>
    intro num fn acc M hm hA hac hn hf
    obtain ⟨fn, rfl⟩ : ∃ q, fn = q + 1 := ⟨fn - 1, by omega⟩
    obtain ⟨M1, a1, a2, a3⟩ := s_begins fu h5 hm
    have hA1 : m_ar M1 acc := ⟨(a3.2 40 (by decide) (by decide)).trans hA.1, fun z hz => by rw [a3.1 75 (by decide) (by decide) (by decide)]; exact hA.2 z hz⟩
    obtain ⟨M2, b1, b2, b3⟩ := s_dig fu hfu k49 (L_X9_states_58 fu k49 fn) (x3 := x3) (s0 := (f &&& h_mask (nI b), s &&& h_mask (nI b))) hl h5 hfew hf0 hmany (num := num) (by omega) (acc := acc) (by omega) many 0 fu M1 (hm.fp a3.fp) hA1 a2 (by omega) (by omega)
    have hle := ins_len_le [pe (p_F T P k mo b few (f &&& h_mask (nI b), s &&& h_mask (nI b)) many num)] acc
    rw [List.length_singleton] at hle
    obtain ⟨M3, c1, c2, c3⟩ := ih (num + 1) fn _ M2 ((hm.fp a3.fp).fp b3) b2 (by omega) (by omega) (by omega)
    rw [List.range'_succ, List.map_cons, show ∀ (x : Int32) (l : List Int32), x :: l = [x] ++ l from fun _ _ => rfl, ins_app]
    refine ⟨M3, ?_, c2, (a3.fp.tr b3).tr c3⟩
    rw [Nat.pow_zero, Nat.div_one] at b1
    rw [L_X9_states_58, f_X9_powerOf, show (1 : Int32) = nI (few ^ 0) from rfl, show (0 : Int32) = nI 0 from rfl, s_pow fu (by omega) M many 0 fu (by omega) (by omega), e_cl, if_neg (by rw [n_le (by omega) (by omega)]; omega), a1, e_cv, b1]
    exact c1
def p_s0 (few : Nat) : Nat → Nat
  | 0 => 0
  | m + 1 => p_s0 few m + few ^ m
theorem p_s0_le : ∀ few, few < 7 → ∀ m, m < 4 → p_s0 few m + few ^ m ≤ 259 := by decide +kernel
def p_DD (T : Nat → List Nat) (P k mo b few : Nat) (s0 : Int32 × Int32) : Nat → Nat → List Int32
  | _, 0 => []
  | many, q + 1 => (List.range' 0 (few ^ many)).map (fun x => pe (p_F T P k mo b few s0 many x)) ++ p_DD T P k mo b few s0 (many + 1) q
theorem s_many (fu : Nat) (hfu : 1000 ≤ fu) {P law j k mo b few n : Nat} {f s : Int32} {T : Nat → List Nat} (hl : law < 6) (h5 : j < 5) (hfew : few ≤ 6) (hf0 : 0 < few) (hn : n ≤ 3) : ∀ (q many fn : Nat) (acc : List Int32) (M : ow_S), m_at M P law j k mo (nI b) f s T → m_ar M acc → acc.length ≤ p_s0 few many → many + q = n + 1 → q < fn → ∃ M', L_X9_states_49 fu fn (nI j) (nI few) (nI n) (nI many) M = some (nI (ins acc (p_DD T P k mo b few (f &&& h_mask (nI b), s &&& h_mask (nI b)) many q)).length, M') ∧ m_fp M M' := by
  intro q
  induction q with
  | zero =>
    intro many fn acc M hm hA hac hq hf
    obtain ⟨fn, rfl⟩ : ∃ q, fn = q + 1 := ⟨fn - 1, by omega⟩
    rw [p_DD, ins]
    refine ⟨M, ?_, m_fp.rf M⟩
    rw [L_X9_states_49, if_pos (by rw [n_lt (by omega) (by omega)]; omega), hA.1]
  | succ q ih =>
    intro many fn acc M hm hA hac hq hf
    obtain ⟨fn, rfl⟩ : ∃ q, fn = q + 1 := ⟨fn - 1, by omega⟩
    have hb := p_s0_le few (by omega) many (by omega)
    have hpw := p_pw few (by omega) many (by omega)
    obtain ⟨M1, a1, a2, a3⟩ := s_num fu hfu (L_X9_states_49 fu fn) (x3 := nI n) hl h5 hfew hf0 (show many ≤ 3 by omega) hb (few ^ many) 0 fu acc M hm hA (by omega) (by omega) (by omega)
    have hle := ins_len_le ((List.range' 0 (few ^ many)).map (fun x => pe (p_F T P k mo b few (f &&& h_mask (nI b), s &&& h_mask (nI b)) many x))) acc
    rw [List.length_map, List.length_range'] at hle
    obtain ⟨M2, b1, b2⟩ := ih (many + 1) fn _ M1 (hm.fp a3) a2 (by rw [p_s0]; omega) (by omega) (by omega)
    rw [p_DD, ins_app]
    refine ⟨M2, ?_, a3.tr b2⟩
    rw [L_X9_states_49, if_neg (by rw [n_lt (by omega) (by omega)]; omega), show (0 : Int32) = nI 0 from rfl, a1]
    exact b1
