/-! the model's sign after sign -/
def m_by (σ : ow_S) (B : Nat → Nat) (n : Nat) : Prop := σ.1 56 8 = nI n ∧ n ≤ 160 ∧ (∀ i, i < n → σ.1 61 i = nI (B i)) ∧ ∀ i, B i < 256
def mi (i : Nat) : Nat := if i < 3 then i + 9 else i - 3
def mwd (i : Nat) : List Nat := wd.getD (mi i) []
def mpad (i z : Nat) : Nat := if z < (mwd i).length then (mwd i).getD z 0 else 32
def m_tab (σ : ow_S) : Prop := ∀ i z, i < 12 → z < 8 → σ.1 70 (8 * i + z) = nI (mpad i z)
def m_lfr (σ σ' : ow_S) : Prop := (∀ c z, (c ≠ 56 ∨ (z ≠ 24 ∧ z ≠ 25 ∧ z ≠ 26 ∧ z ≠ 27)) → σ'.1 c z = σ.1 c z) ∧ σ'.2 = σ.2
theorem m_lfr.rf (σ : ow_S) : m_lfr σ σ := ⟨fun _ _ _ => rfl, rfl⟩
theorem m_lfr.tr {a b c : ow_S} (h : m_lfr a b) (h' : m_lfr b c) : m_lfr a c := ⟨fun k z h1 => (h'.1 k z h1).trans (h.1 k z h1), h'.2.trans h.2⟩
theorem m_lfr.w (σ : ow_S) {j : Nat} (hj : j = 24 ∨ j = 25 ∨ j = 26 ∨ j = 27) (v : Int32) : m_lfr σ (ow_sI σ 56 j v) := ⟨fun c z h => by
  rw [g_if]
  by_cases e : c = 56
  · rw [if_pos e, if_neg (by omega), e]
  · rw [if_neg e], rfl⟩
theorem m_by.fr {σ σ' : ow_S} {B : Nat → Nat} {n : Nat} (h : m_by σ B n) (w : m_lfr σ σ') : m_by σ' B n := ⟨(w.1 56 8 (by omega)).trans h.1, h.2.1, fun i hi => (w.1 61 i (by omega)).trans (h.2.2.1 i hi), h.2.2.2⟩
theorem m_tab.fr {σ σ' : ow_S} (h : m_tab σ) (w : m_lfr σ σ') : m_tab σ' := fun i z hi hz => (w.1 70 _ (by omega)).trans (h i z hi hz)
theorem g_56s (σ : ow_S) (j b : Nat) (v : Int32) : (ow_sI σ 56 j v).1 56 b = if b = j then v else σ.1 56 b := by rw [g_if, if_pos rfl]
theorem s_X9_in (fu : Nat) {v a b : Nat} (hv : v < 2 ^ 31) (ha : a < 2 ^ 31) (hb : b < 2 ^ 31) (σ : ow_S) : f_X9_in fu (nI v) (nI a) (nI b) σ = some (if a ≤ v ∧ v ≤ b then 1 else 0, σ) := by
  have e1 := n_lt hv ha
  have e2 := n_lt hb hv
  simp only [f_X9_in, e1, e2]
  by_cases h1 : v < a
  · rw [if_pos h1, if_neg (by omega)]
  · rw [if_neg h1]
    by_cases h2 : b < v
    · rw [if_pos h2, if_neg (by omega)]
    · rw [if_neg h2, if_pos (by omega)]
theorem mwd_ok : ∀ i, i < 12 → (mwd i).length ≤ 8 ∧ ∀ z, z < 8 → mpad i z < 256 := by decide +kernel
theorem mwd_32 : ∀ i, i < 12 → ∀ z, z < (mwd i).length → (mwd i).getD z 0 ≠ 32 := by decide +kernel
theorem s_m_word_in (fu : Nat) (k2 : Int32 → Int32 → Int32 → ow_S → Option (Int32 × ow_S)) {B : Nat → Nat} {n p e i : Nat} {σ : ow_S} (h : m_by σ B n) (ht : m_tab σ) (hp : p ≤ e) (he : e ≤ n) (hi : i < 12) : ∀ (q j fn : Nat), j + q = 8 → q < fn → L_X9_wordFrom_26 fu k2 fn (nI p) (nI e) (nI i) 1 (nI j) σ = if (∀ z, z < 8 → j ≤ z → mpad i z = (if e ≤ p + z then 32 else B (p + z))) then some (nI i, σ) else k2 (nI p) (nI e) (nI (i + 1)) σ := by
  obtain ⟨h1, h2, h3, h4⟩ := h
  intro q
  induction q with
  | zero =>
    intro j fn hj hf
    obtain ⟨fn, rfl⟩ : ∃ q, fn = q + 1 := ⟨fn - 1, by omega⟩
    rw [L_X9_wordFrom_26, if_pos (by rw [show (8 : Int32) = nI 8 from rfl, n_le (by omega) (by omega)]; omega), L_X9_wordFrom_88, if_neg (by decide), if_pos (fun z h1 h2 => by omega)]
  | succ q ih =>
    intro j fn hj hf
    obtain ⟨fn, rfl⟩ : ∃ q, fn = q + 1 := ⟨fn - 1, by omega⟩
    have en : ∀ K : Option (Int32 × ow_S), ∀ fn, 0 < fn → L_X9_wordFrom_26 fu k2 fn (nI p) (nI e) (nI i) 0 (nI (j + 1)) σ = k2 (nI p) (nI e) (nI (i + 1)) σ := by
      intro K fn hf
      obtain ⟨fn, rfl⟩ : ∃ q, fn = q + 1 := ⟨fn - 1, by omega⟩
      rw [L_X9_wordFrom_26]
      have : L_X9_wordFrom_88 fu k2 (nI p) (nI e) (nI i) 0 σ = k2 (nI p) (nI e) (nI (i + 1)) σ := by
        rw [L_X9_wordFrom_88, if_pos rfl, show (1 : Int32) = nI 1 from rfl, n_add, e_let]
      rw [this, if_pos rfl, ite_self]
    have key : ∀ v : Nat, v < 256 → (v = if e ≤ p + j then 32 else B (p + j)) → L_X9_wordFrom_72 fu k2 (L_X9_wordFrom_26 fu k2 fn) (nI p) (nI e) (nI i) (nI j) (nI (mpad i j)) (nI v) σ = if (∀ z, z < 8 → j ≤ z → mpad i z = (if e ≤ p + z then 32 else B (p + z))) then some (nI i, σ) else k2 (nI p) (nI e) (nI (i + 1)) σ := by
      intro v hv hvv
      have ev := n_eq (a := mpad i j) (b := v) (by have := (mwd_ok i hi).2 j (by omega); omega) (by omega)
      simp only [L_X9_wordFrom_72, L_X9_wordFrom_80, ev]
      by_cases c : mpad i j = v
      · rw [if_pos c, show (1 : Int32) = nI 1 from rfl, n_add, e_let, show nI 1 = (1 : Int32) from rfl, ih (j + 1) fn (by omega) (by omega)]
        have : (∀ z, z < 8 → j + 1 ≤ z → mpad i z = (if e ≤ p + z then 32 else B (p + z))) ↔ (∀ z, z < 8 → j ≤ z → mpad i z = (if e ≤ p + z then 32 else B (p + z))) := by
          constructor
          · intro h z hz hjz
            by_cases e : z = j
            · subst e; rw [c, hvv]
            · exact h z hz (by omega)
          · intro h z hz hjz; exact h z hz (by omega)
        simp only [this]
      · rw [if_neg c, show (1 : Int32) = nI 1 from rfl, n_add, e_let, en none fn (by omega), if_neg (fun h => c ((h j (by omega) (Nat.le_refl _)).trans hvv.symm))]
    rw [L_X9_wordFrom_26, if_neg (by rw [show (8 : Int32) = nI 8 from rfl, n_le (by omega) (by omega)]; omega), if_neg (by decide), show (8 : Int32) = nI 8 from rfl, n_mul, n_add, e_ckn _ (by omega) (by omega), n_add, n_cl (a := 8 * i + j) (by omega), ht i j hi (by omega)]
    have ec := n_le (a := e) (b := p + j) (by omega) (by omega)
    simp only [ec]
    by_cases c : e ≤ p + j
    · rw [if_pos c]
      exact key 32 (by decide) (by rw [if_pos c])
    · rw [if_neg c, e_ckn _ (by omega) (by omega), n_cl (by omega), h3 _ (by omega)]
      exact key _ (h4 _) (by rw [if_neg c])
theorem mwd_eq {B : Nat → Nat} {p e i : Nat} (hi : i < 12) (hp : p ≤ e) (hl : ∀ z, p + z < e → B (p + z) ≠ 32) : (e - p ≤ 8 ∧ ∀ z, z < 8 → 0 ≤ z → mpad i z = (if e ≤ p + z then 32 else B (p + z))) ↔ lx_W B p e = mwd i := by
  have hl8 := (mwd_ok i hi).1
  have h32 := mwd_32 i hi
  unfold lx_W
  rw [l_Weq]
  constructor
  · rintro ⟨h8, h⟩
    have hlen : e - p = (mwd i).length := by
      rcases Nat.lt_trichotomy (e - p) (mwd i).length with hc | hc | hc
      · have := h (e - p) (by omega) (by omega)
        rw [mpad, if_pos hc, if_pos (by omega)] at this
        exact absurd this (h32 _ hc)
      · exact hc
      · have := h (mwd i).length (by omega) (by omega)
        rw [mpad, if_neg (by omega), if_neg (by omega)] at this
        exact absurd this.symm (hl _ (by omega))
    refine ⟨hlen, fun z hz => ?_⟩
    have := h z (by omega) (by omega)
    rw [mpad, if_pos (by omega), if_neg (by omega)] at this
    exact this.symm
  · rintro ⟨h1, h2⟩
    refine ⟨by omega, fun z hz _ => ?_⟩
    by_cases c : z < (mwd i).length
    · rw [mpad, if_pos c, if_neg (by omega), h2 z (by omega)]
    · rw [mpad, if_neg c, if_pos (by omega)]
theorem s_m_word_out (fu : Nat) (hfu : 1000 ≤ fu) {B : Nat → Nat} {n p e : Nat} {σ : ow_S} (h : m_by σ B n) (ht : m_tab σ) (hp : p ≤ e) (he : e ≤ n) (hl : ∀ z, p + z < e → B (p + z) ≠ 32) : ∀ (q i fn : Nat), i + q = 12 → q < fn → ∃ j, L_X9_wordFrom_2 fu fn (nI p) (nI e) (nI i) σ = some (nI j, σ) ∧ j ≤ 12 ∧ (j < 12 → lx_W B p e = mwd j) ∧ (j = 12 → ∀ z, i ≤ z → z < 12 → lx_W B p e ≠ mwd z) := by
  have hn := h.2.1
  intro q
  induction q with
  | zero =>
    intro i fn hi hf
    obtain ⟨fn, rfl⟩ : ∃ q, fn = q + 1 := ⟨fn - 1, by omega⟩
    refine ⟨12, ?_, Nat.le_refl _, fun h => absurd h (by omega), fun _ z h1 h2 => by omega⟩
    rw [L_X9_wordFrom_2, if_pos (by rw [show (12 : Int32) = nI 12 from rfl, n_le (by omega) (by omega)]; omega)]
    rfl
  | succ q ih =>
    intro i fn hi hf
    obtain ⟨fn, rfl⟩ : ∃ q, fn = q + 1 := ⟨fn - 1, by omega⟩
    have hL : L_X9_wordFrom_2 fu (fn + 1) (nI p) (nI e) (nI i) σ = if lx_W B p e = mwd i then some (nI i, σ) else L_X9_wordFrom_2 fu fn (nI p) (nI e) (nI (i + 1)) σ := by
      rw [L_X9_wordFrom_2, if_neg (by rw [show (12 : Int32) = nI 12 from rfl, n_le (by omega) (by omega)]; omega), n_sub hp]
      have e8 : (8 : Int32) < nI (e - p) ↔ 8 < e - p := n_lt (a := 8) (by decide) (by omega)
      simp only [e8, L_X9_wordFrom_21]
      by_cases c : 8 < e - p
      · obtain ⟨fu', rfl⟩ : ∃ q, fu = q + 1 := ⟨fu - 1, by omega⟩
        rw [if_pos c, if_neg (fun hh => by have := (mwd_eq (by omega) hp hl).mpr hh; omega), L_X9_wordFrom_26, if_neg (by decide), if_pos rfl, L_X9_wordFrom_88, if_pos rfl, show (1 : Int32) = nI 1 from rfl, n_add, e_let]
      · rw [if_neg c, show (0 : Int32) = nI 0 from rfl, s_m_word_in fu _ h ht hp he (by omega) 8 0 fu (by omega) (by omega)]
        have := mwd_eq (B := B) (p := p) (e := e) (i := i) (by omega) hp hl
        have e2 : (∀ z, z < 8 → 0 ≤ z → mpad i z = (if e ≤ p + z then 32 else B (p + z))) ↔ lx_W B p e = mwd i := by
          rw [← this]; constructor
          · intro h; exact ⟨by omega, h⟩
          · intro h; exact h.2
        simp only [e2]
    rw [hL]
    by_cases c : lx_W B p e = mwd i
    · rw [if_pos c]
      exact ⟨i, rfl, by omega, fun _ => c, fun h => by omega⟩
    · rw [if_neg c]
      obtain ⟨j, a, b, d, g⟩ := ih (i + 1) fn (by omega) (by omega)
      refine ⟨j, a, b, d, fun hj z h1 h2 => ?_⟩
      by_cases ez : z = i
      · subst ez; exact c
      · exact g hj z (by omega) h2
/-- the model's token for the class's -/
def y_t (t : Nat) : Int32 := if 100 ≤ t then 1 else if t < 6 then 2 else if t < 9 then nI (t - 2) else if t = 9 then 60 else if t = 10 then 61 else if t = 11 then 43 else if t = 12 then 45 else if t = 13 then 42 else if t = 15 then 40 else if t = 16 then 41 else if t = 17 then 59 else if t = 21 then 0 else if t = 18 ∨ t = 19 ∨ t = 20 then 3 else -1
def y_v (t : Nat) (v : Int32) : Prop := (t < 9 → v = nI t) ∧ (t = 18 → v = 0) ∧ (t = 19 → v = 1) ∧ (t = 20 → v = 2) ∧ (100 ≤ t → v = nI (t - 100))
theorem mwd_tok : ∀ j, j < 12 → lx_w (mwd j) = (if j < 3 then j + 18 else j - 3) := by decide +kernel
theorem lx_w_22 {W : List Nat} (h : ∀ z, 0 ≤ z → z < 12 → W ≠ mwd z) : lx_w W = 22 := by
  unfold lx_w
  rw [if_neg (show ¬W = wd.getD 0 [] from h 3 (by omega) (by omega)), if_neg (show ¬W = wd.getD 1 [] from h 4 (by omega) (by omega)), if_neg (show ¬W = wd.getD 2 [] from h 5 (by omega) (by omega)), if_neg (show ¬W = wd.getD 3 [] from h 6 (by omega) (by omega)), if_neg (show ¬W = wd.getD 4 [] from h 7 (by omega) (by omega)), if_neg (show ¬W = wd.getD 5 [] from h 8 (by omega) (by omega)), if_neg (show ¬W = wd.getD 6 [] from h 9 (by omega) (by omega)), if_neg (show ¬W = wd.getD 7 [] from h 10 (by omega) (by omega)), if_neg (show ¬W = wd.getD 8 [] from h 11 (by omega) (by omega)), if_neg (show ¬W = wd.getD 9 [] from h 0 (by omega) (by omega)), if_neg (show ¬W = wd.getD 10 [] from h 1 (by omega) (by omega)), if_neg (show ¬W = wd.getD 11 [] from h 2 (by omega) (by omega))]
theorem s_next_word (fu : Nat) (hfu : 1000 ≤ fu) {B : Nat → Nat} {n p e : Nat} {σ : ow_S} (h : m_by σ B n) (ht : m_tab σ) (hp : p ≤ e) (he : e ≤ n) (hl : ∀ z, p + z < e → B (p + z) ≠ 32) (h24 : σ.1 56 24 = nI e) (h25 : σ.1 56 25 = nI p) : ∃ σ', L_X9_next_146 fu σ = some σ' ∧ σ'.1 56 24 = nI e ∧ σ'.1 56 25 = nI p ∧ σ'.1 56 26 = y_t (lx_w (lx_W B p e)) ∧ y_v (lx_w (lx_W B p e)) (σ'.1 56 27) ∧ m_lfr σ σ' := by
  obtain ⟨j, a, b, d, g⟩ := s_m_word_out fu hfu h ht hp he hl 12 0 fu rfl (by omega)
  rw [L_X9_next_146, h24, h25, f_X9_wordFrom, show (0 : Int32) = nI 0 from rfl, a, e_cl]
  have e3 : (3 : Int32) ≤ nI j ↔ 3 ≤ j := n_le (a := 3) (by decide) (by omega)
  have e9 : (9 : Int32) ≤ nI j ↔ 9 ≤ j := n_le (a := 9) (by decide) (by omega)
  have e12 : nI j = (12 : Int32) ↔ j = 12 := n_eq (b := 12) (by omega) (by decide)
  have fin : ∀ s1 v : Int32, L_X9_next_195 fu (nI j) s1 σ = some (ow_sI (ow_sI σ 56 26 s1) 56 27 (if 3 ≤ j then nI (j - 3) else nI j)) := by
    intro s1 v
    simp only [L_X9_next_195, L_X9_next_211, e_let, e3]
    by_cases c : 3 ≤ j
    · rw [if_pos c, if_pos c, show (3 : Int32) = nI 3 from rfl, n_sub c]
    · rw [if_neg c, if_neg c]
  have out : ∀ s1 : Int32, s1 = y_t (lx_w (lx_W B p e)) → ∃ σ', some (ow_sI (ow_sI σ 56 26 s1) 56 27 (if 3 ≤ j then nI (j - 3) else nI j)) = some σ' ∧ σ'.1 56 24 = nI e ∧ σ'.1 56 25 = nI p ∧ σ'.1 56 26 = y_t (lx_w (lx_W B p e)) ∧ y_v (lx_w (lx_W B p e)) (σ'.1 56 27) ∧ m_lfr σ σ' := by
    intro s1 hs
    refine ⟨_, rfl, ?_, ?_, ?_, ?_, (m_lfr.w σ (by omega) _).tr (m_lfr.w _ (by omega) _)⟩
    · rw [g_56s, if_neg (by decide), g_56s, if_neg (by decide), h24]
    · rw [g_56s, if_neg (by decide), g_56s, if_neg (by decide), h25]
    · rw [g_56s, if_neg (by decide), g_56s, if_pos rfl, hs]
    · rw [g_56s, if_pos rfl]
      by_cases c : j < 12
      · rw [d c, mwd_tok j c]
        unfold y_v
        by_cases c3 : j < 3
        · rw [if_pos c3, if_neg (by omega)]
          refine ⟨fun h => by omega, fun h => ?_, fun h => ?_, fun h => ?_, fun h => by omega⟩
          · have : j = 0 := by omega
            subst this; rfl
          · have : j = 1 := by omega
            subst this; rfl
          · have : j = 2 := by omega
            subst this; rfl
        · rw [if_neg c3, if_pos (by omega)]
          exact ⟨fun _ => rfl, fun h => by omega, fun h => by omega, fun h => by omega, fun h => by omega⟩
      · rw [lx_w_22 (g (by omega))]
        exact ⟨fun h => by omega, fun h => by omega, fun h => by omega, fun h => by omega, fun h => by omega⟩
  simp only [e3, e9, e12]
  by_cases c3 : 3 ≤ j
  · rw [if_pos c3]
    by_cases c9 : 9 ≤ j
    · rw [if_pos c9]
      by_cases c12 : j = 12
      · rw [if_pos c12, fin _ 0]
        exact out _ (by rw [lx_w_22 (g c12)]; rfl)
      · rw [if_neg c12, fin _ 0]
        refine out _ ?_
        rw [d (by omega), mwd_tok j (by omega), if_neg (by omega), show (4 : Int32) = nI 4 from rfl, show (9 : Int32) = nI 9 from rfl, n_add, n_sub (by omega), y_t, if_neg (by omega), if_neg (by omega), if_pos (by omega)]
        congr 1; omega
    · rw [if_neg c9, fin _ 0]
      refine out _ ?_
      rw [d (by omega), mwd_tok j (by omega), if_neg (by omega), y_t, if_neg (by omega), if_pos (by omega)]
  · rw [if_neg c3, fin _ 0]
    refine out _ ?_
    rw [d (by omega), mwd_tok j (by omega), if_pos (by omega), y_t, if_neg (by omega), if_neg (by omega), if_neg (by omega), if_neg (by omega), if_neg (by omega), if_neg (by omega), if_neg (by omega), if_neg (by omega), if_neg (by omega), if_neg (by omega), if_neg (by omega), if_neg (by omega), if_pos (by omega)]
theorem s_next_num (fu : Nat) {B : Nat → Nat} {n : Nat} : ∀ (q p c v fn : Nat) (σ : ow_S), m_by σ B n → σ.1 56 24 = nI p → p + q = n → q < fn → c ≤ p → lx_nv c v → (c ≤ 4 → σ.1 56 27 = nI v) → ∃ σ', L_X9_next_230 fu fn (nI c) σ = some σ' ∧ σ'.1 56 24 = nI (lx_n B q p c v).1 ∧ σ'.1 56 26 = (if 4 < (lx_n B q p c v).2.1 then -1 else 1) ∧ ((lx_n B q p c v).2.1 ≤ 4 → σ'.1 56 27 = nI (lx_n B q p c v).2.2) ∧ (∀ k z, (k ≠ 56 ∨ (z ≠ 24 ∧ z ≠ 26 ∧ z ≠ 27)) → σ'.1 k z = σ.1 k z) ∧ σ'.2 = σ.2 := by
  intro q
  have w3 : ∀ (σ : ow_S) (j : Nat) (v : Int32), (j = 24 ∨ j = 26 ∨ j = 27) → ∀ k z, (k ≠ 56 ∨ (z ≠ 24 ∧ z ≠ 26 ∧ z ≠ 27)) → (ow_sI σ 56 j v).1 k z = σ.1 k z := by
    intro σ j v hj k z h
    rw [g_if]
    by_cases e : k = 56
    · rw [if_pos e, if_neg (by omega), e]
    · rw [if_neg e]
  have fin : ∀ (p c v : Nat) (σ : ow_S), c ≤ 1000 → σ.1 56 24 = nI p → (c ≤ 4 → σ.1 56 27 = nI v) → ∃ σ', L_X9_next_309 fu (nI c) σ = some σ' ∧ σ'.1 56 24 = nI p ∧ σ'.1 56 26 = (if 4 < c then -1 else 1) ∧ (c ≤ 4 → σ'.1 56 27 = nI v) ∧ (∀ k z, (k ≠ 56 ∨ (z ≠ 24 ∧ z ≠ 26 ∧ z ≠ 27)) → σ'.1 k z = σ.1 k z) ∧ σ'.2 = σ.2 := by
    intro p c v σ hc h2 hv
    have e : nI c ≤ (4 : Int32) ↔ c ≤ 4 := n_le (b := 4) (by omega) (by decide)
    simp only [L_X9_next_309, L_X9_next_320, e, e_let]
    by_cases h : c ≤ 4
    · rw [if_pos h, if_neg (by omega)]
      exact ⟨_, rfl, by rw [g_56s, if_neg (by decide), h2], by rw [g_56s, if_pos rfl], fun _ => by rw [g_56s, if_neg (by decide), hv h], w3 _ _ _ (by omega), rfl⟩
    · rw [if_neg h, if_pos (by omega)]
      exact ⟨_, rfl, by rw [g_56s, if_neg (by decide), h2], by rw [g_56s, if_pos rfl], fun h' => absurd h' h, w3 _ _ _ (by omega), rfl⟩
  induction q with
  | zero =>
    intro p c v fn σ h h2 hp hf hc hv h27
    obtain ⟨fn, rfl⟩ : ∃ q, fn = q + 1 := ⟨fn - 1, by omega⟩
    have hn := h.2.1
    rw [L_X9_next_230, h.1, h2, if_pos (by rw [n_le (by omega) (by omega)]; omega), lx_n]
    exact fin p c v σ (by omega) h2 h27
  | succ q ih =>
    intro p c v fn σ h h2 hp hf hc hv h27
    obtain ⟨fn, rfl⟩ : ∃ q, fn = q + 1 := ⟨fn - 1, by omega⟩
    have hn := h.2.1
    have hB := h.2.2.2 p
    rw [L_X9_next_230, h.1, h2, if_neg (by rw [n_le (by omega) (by omega)]; omega), e_ckn _ (by omega) (by omega), n_cl (a := p) (by omega), h.2.2.1 p (by omega), show (48 : Int32) = nI 48 from rfl, show (57 : Int32) = nI 57 from rfl, s_X9_in fu (by omega) (by decide) (by decide), e_cl, lx_n]
    by_cases hb : 48 ≤ B p ∧ B p ≤ 57
    · rw [if_pos hb, if_pos hb, if_neg (by decide)]
      have e4 : (4 : Int32) ≤ nI c ↔ 4 ≤ c := n_le (a := 4) (by decide) (by omega)
      have step : ∀ v' : Nat, ∀ x : Int32, lx_nv (c + 1) v' → (c + 1 ≤ 4 → x = nI v') → ∃ σ', L_X9_next_290 fu (L_X9_next_230 fu fn) (nI c) x σ = some σ' ∧ σ'.1 56 24 = nI (lx_n B q (p + 1) (c + 1) v').1 ∧ σ'.1 56 26 = (if 4 < (lx_n B q (p + 1) (c + 1) v').2.1 then -1 else 1) ∧ ((lx_n B q (p + 1) (c + 1) v').2.1 ≤ 4 → σ'.1 56 27 = nI (lx_n B q (p + 1) (c + 1) v').2.2) ∧ (∀ k z, (k ≠ 56 ∨ (z ≠ 24 ∧ z ≠ 26 ∧ z ≠ 27)) → σ'.1 k z = σ.1 k z) ∧ σ'.2 = σ.2 := by
        intro v' x hv' hx
        rw [L_X9_next_290, e_let, show (1 : Int32) = nI 1 from rfl, n_add, e_let, g_56s, if_neg (by decide), h2, n_add, e_let]
        have w := (m_lfr.w σ (j := 27) (by omega) x).tr (m_lfr.w _ (j := 24) (by omega) (nI (p + 1)))
        obtain ⟨σ2, a2, b2, b3, b4, w2, w5⟩ := ih (p + 1) (c + 1) v' fn _ (h.fr w) (g_same _ _ _ _) (by omega) (by omega) (by omega) hv' (fun hc => by rw [g_56s, if_neg (by decide), g_56s, if_pos rfl, hx hc])
        exact ⟨σ2, a2, b2, b3, b4, fun k z hk => by rw [w2 k z hk, w3 _ _ _ (by omega) k z hk, w3 _ _ _ (by omega) k z hk], w5⟩
      simp only [e4]
      by_cases h4 : 4 ≤ c
      · rw [if_pos h4, if_neg (show ¬c < 4 by omega)]
        exact step v 0 (by unfold lx_nv at hv ⊢; omega) (fun h => by omega)
      · rw [if_neg h4, if_pos (show c < 4 by omega), h2, e_ckn _ (by omega) (by omega), n_cl (a := p) (by omega), h.2.2.1 p (by omega), h27 (by omega), show (10 : Int32) = nI 10 from rfl, n_mul, n_add, n_sub (by omega), show 10 * v + B p - 48 = 10 * v + (B p - 48) by omega]
        exact step _ _ (by unfold lx_nv at hv ⊢; omega) (fun _ => rfl)
    · rw [if_neg hb, if_neg hb, if_pos rfl]
      exact fin p c v σ (by omega) h2 h27
theorem s_next_let (fu : Nat) (hfu : 1000 ≤ fu) {B : Nat → Nat} {n p : Nat} : ∀ (q e fn : Nat) (σ : ow_S), m_by σ B n → m_tab σ → p ≤ e → (∀ z, p + z < e → B (p + z) ≠ 32) → σ.1 56 24 = nI e → σ.1 56 25 = nI p → e + q = n → q < fn → ∃ σ', L_X9_next_103 fu fn σ = some σ' ∧ σ'.1 56 24 = nI (lx_l B q e) ∧ σ'.1 56 25 = nI p ∧ σ'.1 56 26 = y_t (lx_w (lx_W B p (lx_l B q e))) ∧ y_v (lx_w (lx_W B p (lx_l B q e))) (σ'.1 56 27) ∧ m_lfr σ σ' := by
  intro q
  induction q with
  | zero =>
    intro e fn σ h ht hp hl h24 h25 he hf
    obtain ⟨fn, rfl⟩ : ∃ q, fn = q + 1 := ⟨fn - 1, by omega⟩
    have hn := h.2.1
    rw [L_X9_next_103, h.1, h24, if_pos (by rw [n_le (by omega) (by omega)]; omega), lx_l]
    exact s_next_word fu hfu h ht hp (by omega) hl h24 h25
  | succ q ih =>
    intro e fn σ h ht hp hl h24 h25 he hf
    obtain ⟨fn, rfl⟩ : ∃ q, fn = q + 1 := ⟨fn - 1, by omega⟩
    have hn := h.2.1
    have hB := h.2.2.2 e
    rw [L_X9_next_103, h.1, h24, if_neg (by rw [n_le (by omega) (by omega)]; omega), e_ckn _ (by omega) (by omega), n_cl (a := e) (by omega), h.2.2.1 e (by omega), show (97 : Int32) = nI 97 from rfl, show (122 : Int32) = nI 122 from rfl, s_X9_in fu (by omega) (by decide) (by decide), e_cl, lx_l]
    by_cases hb : 97 ≤ B e ∧ B e ≤ 122
    · rw [if_pos hb, if_pos hb, if_neg (by decide), h24, show (1 : Int32) = nI 1 from rfl, n_add, e_let]
      have w := m_lfr.w σ (j := 24) (by omega) (nI (e + 1))
      obtain ⟨σ2, a2, b2, b3, b4, b5, w2⟩ := ih (e + 1) fn _ (h.fr w) (ht.fr w) (by omega) (fun z hz => by
        by_cases c : p + z = e
        · rw [c]; omega
        · exact hl z (by omega)) (g_same _ _ _ _) (by rw [g_56s, if_neg (by decide), h25]) (by omega) (by omega)
      exact ⟨σ2, a2, b2, b3, b4, b5, w.tr w2⟩
    · rw [if_neg hb, if_neg hb, if_pos rfl]
      exact s_next_word fu hfu h ht hp (by omega) hl h24 h25
theorem s_next_end (fu : Nat) (hfu : 1000 ≤ fu) {B : Nat → Nat} {n p : Nat} {σ : ow_S} (h : m_by σ B n) (ht : m_tab σ) (hp : p ≤ n) (h24 : σ.1 56 24 = nI p) : ∃ σ', L_X9_next_52 fu σ = some σ' ∧ σ'.1 56 24 = nI (lx_at B n p).2 ∧ σ'.1 56 25 = nI p ∧ σ'.1 56 26 = y_t (lx_at B n p).1 ∧ y_v (lx_at B n p).1 (σ'.1 56 27) ∧ m_lfr σ σ' := by
  have hn := h.2.1
  have w := ((m_lfr.w σ (j := 25) (by omega) (nI p)).tr (m_lfr.w _ (j := 26) (by omega) 0)).tr (m_lfr.w _ (j := 27) (by omega) 0)
  have hA := h.fr w
  have hT := ht.fr w
  have k24 : (ow_sI (ow_sI (ow_sI σ 56 25 (nI p)) 56 26 0) 56 27 0).1 56 24 = nI p := by rw [g_56s, if_neg (by decide), g_56s, if_neg (by decide), g_56s, if_neg (by decide), h24]
  have k25 : (ow_sI (ow_sI (ow_sI σ 56 25 (nI p)) 56 26 0) 56 27 0).1 56 25 = nI p := by rw [g_56s, if_neg (by decide), g_56s, if_neg (by decide), g_56s, if_pos rfl]
  have k26 : (ow_sI (ow_sI (ow_sI σ 56 25 (nI p)) 56 26 0) 56 27 0).1 56 26 = 0 := by rw [g_56s, if_neg (by decide), g_56s, if_pos rfl]
  have k27 : (ow_sI (ow_sI (ow_sI σ 56 25 (nI p)) 56 26 0) 56 27 0).1 56 27 = 0 := by rw [g_56s, if_pos rfl]
  rw [L_X9_next_52, h24, e_let, e_let, e_let]
  revert hA hT k24 k25 k26 k27
  generalize ow_sI (ow_sI (ow_sI σ 56 25 (nI p)) 56 26 0) 56 27 0 = τ at w ⊢
  intro hA hT k24 k25 k26 k27
  have e1 : nI p = nI n ↔ p = n := n_eq (by omega) (by omega)
  rw [k24, hA.1, lx_at]
  simp only [e1]
  by_cases c : p = n
  · rw [if_pos c, if_pos (by omega)]
    exact ⟨τ, rfl, k24, k25, k26, ⟨fun h => by omega, fun h => by omega, fun h => by omega, fun h => by omega, fun h => by omega⟩, w⟩
  · have hB := h.2.2.2 p
    rw [if_neg c, if_neg (by omega), e_ckn _ (by omega) (by omega), n_cl (by omega), hA.2.2.1 p (by omega), e_let, show (97 : Int32) = nI 97 from rfl, show (122 : Int32) = nI 122 from rfl, s_X9_in fu (by omega) (by decide) (by decide), e_cl]
    by_cases cl : 97 ≤ B p ∧ B p ≤ 122
    · rw [if_pos cl, if_pos cl, if_neg (by decide)]
      obtain ⟨σ2, a2, b2, b3, b4, b5, w2⟩ := s_next_let fu hfu (p := p) (n - p) p fu τ hA hT (Nat.le_refl _) (fun z hz => by omega) k24 k25 (by omega) (by omega)
      exact ⟨σ2, a2, b2, b3, b4, b5, w.tr w2⟩
    · rw [if_neg cl, if_neg cl, if_pos rfl, show (48 : Int32) = nI 48 from rfl, show (57 : Int32) = nI 57 from rfl, s_X9_in fu (by omega) (by decide) (by decide), e_cl]
      by_cases cd : 48 ≤ B p ∧ B p ≤ 57
      · rw [if_pos cd, if_pos cd, if_neg (by decide)]
        obtain ⟨σ2, a2, b2, b3, b4, w2, w3⟩ := s_next_num fu (n - p) p 0 0 fu τ hA k24 (by omega) (by omega) (by omega) (by unfold lx_nv; omega) (fun _ => k27)
        refine ⟨σ2, a2, b2, (w2 56 25 (by omega)).trans k25, ?_, ?_, w.tr ⟨fun k z hk => w2 k z (by omega), w3⟩⟩
        · rw [b3]
          dsimp only
          by_cases c4 : 4 < (lx_n B (n - p) p 0 0).2.1
          · rw [if_pos c4, if_pos c4]; rfl
          · rw [if_neg c4, if_neg c4, y_t, if_pos (by omega)]
        · dsimp only
          by_cases c4 : 4 < (lx_n B (n - p) p 0 0).2.1
          · rw [if_pos c4]
            exact ⟨fun h => by omega, fun h => by omega, fun h => by omega, fun h => by omega, fun h => by omega⟩
          · rw [if_neg c4]
            exact ⟨fun h => by omega, fun h => by omega, fun h => by omega, fun h => by omega, fun _ => by rw [b4 (by omega)]; congr 1; omega⟩
      · rw [if_neg cd, if_neg cd, if_pos rfl]
        have sg : ∀ s : Nat, s ≤ 1 → ∀ x : Int32, x = (if s = 0 then (-1 : Int32) else nI (B p)) → x = y_t (lx_s (B p)) → ∃ σ', L_X9_next_379 fu (nI (B p)) (nI s) τ = some σ' ∧ σ'.1 56 24 = nI (p + 1) ∧ σ'.1 56 25 = nI p ∧ σ'.1 56 26 = y_t (lx_s (B p)) ∧ y_v (lx_s (B p)) (σ'.1 56 27) ∧ m_lfr σ σ' := by
          intro s hs x hx hy
          have es : nI s = (0 : Int32) ↔ s = 0 := n_eq (b := 0) (by omega) (by decide)
          have : L_X9_next_379 fu (nI (B p)) (nI s) τ = some (ow_sI (ow_sI τ 56 26 x) 56 24 (nI (p + 1))) := by
            simp only [L_X9_next_379, es, L_X9_next_390, e_let]
            by_cases c0 : s = 0
            · rw [if_pos c0, g_56s, if_neg (by decide), k24, hx, if_pos c0, show (1 : Int32) = nI 1 from rfl, n_add]
            · rw [if_neg c0, g_56s, if_neg (by decide), k24, hx, if_neg c0, show (1 : Int32) = nI 1 from rfl, n_add]
          refine ⟨_, this, g_same _ _ _ _, by rw [g_56s, if_neg (by decide), g_56s, if_neg (by decide), k25], by rw [g_56s, if_neg (by decide), g_56s, if_pos rfl, hy], ?_, w.tr ((m_lfr.w _ (by omega) _).tr (m_lfr.w _ (by omega) _))⟩
          have hs9 : lx_s (B p) = 22 ∨ (9 ≤ lx_s (B p) ∧ lx_s (B p) ≤ 17) := by
            unfold lx_s
            (repeat' split) <;> decide
          exact ⟨fun h => by omega, fun h => by omega, fun h => by omega, fun h => by omega, fun h => by omega⟩
        have e : ∀ k : Nat, k < 2 ^ 31 → ((nI (B p) = (OfNat.ofNat k : Int32)) ↔ B p = k) := fun k hk => n_eq (by omega) hk
        simp only [L_X9_next_374, e 40 (by decide), e 41 (by decide), e 42 (by decide), e 43 (by decide), e 45 (by decide), e 59 (by decide), e 60 (by decide), e 61 (by decide)]
        by_cases q0 : B p = 40
        · rw [if_pos q0]; exact sg 1 (by decide) _ rfl (by rw [q0]; rfl)
        rw [if_neg q0]
        by_cases q1 : B p = 41
        · rw [if_pos q1]; exact sg 1 (by decide) _ rfl (by rw [q1]; rfl)
        rw [if_neg q1]
        by_cases q2 : B p = 59
        · rw [if_pos q2]; exact sg 1 (by decide) _ rfl (by rw [q2]; rfl)
        rw [if_neg q2]
        by_cases q3 : B p = 43
        · rw [if_pos q3]; exact sg 1 (by decide) _ rfl (by rw [q3]; rfl)
        rw [if_neg q3]
        by_cases q4 : B p = 45
        · rw [if_pos q4]; exact sg 1 (by decide) _ rfl (by rw [q4]; rfl)
        rw [if_neg q4]
        by_cases q5 : B p = 42
        · rw [if_pos q5]; exact sg 1 (by decide) _ rfl (by rw [q5]; rfl)
        rw [if_neg q5]
        by_cases q6 : B p = 60
        · rw [if_pos q6]; exact sg 1 (by decide) _ rfl (by rw [q6]; rfl)
        rw [if_neg q6]
        by_cases q7 : B p = 61
        · rw [if_pos q7]; exact sg 1 (by decide) _ rfl (by rw [q7]; rfl)
        rw [if_neg q7]
        exact sg 0 (by decide) _ rfl (by unfold lx_s; rw [if_neg q0, if_neg q1, if_neg q5, if_neg q3, if_neg q4, if_neg q2, if_neg q6, if_neg q7]; rfl)
theorem s_next_loop (fu : Nat) (hfu : 1000 ≤ fu) {B : Nat → Nat} {n : Nat} : ∀ (q p fn : Nat) (σ : ow_S), m_by σ B n → m_tab σ → σ.1 56 24 = nI p → p + q = n → q < fn → ∃ σ', L_X9_next_0 fu fn σ = some σ' ∧ σ'.1 56 24 = nI (lx_at B n (lx_b B q p)).2 ∧ σ'.1 56 25 = nI (lx_b B q p) ∧ σ'.1 56 26 = y_t (lx_at B n (lx_b B q p)).1 ∧ y_v (lx_at B n (lx_b B q p)).1 (σ'.1 56 27) ∧ m_lfr σ σ' := by
  intro q
  induction q with
  | zero =>
    intro p fn σ h ht h24 hp hf
    obtain ⟨fn, rfl⟩ : ∃ q, fn = q + 1 := ⟨fn - 1, by omega⟩
    have hn := h.2.1
    rw [L_X9_next_0, h.1, h24, if_pos (by rw [n_le (by omega) (by omega)]; omega), lx_b]
    exact s_next_end fu hfu h ht (by omega) h24
  | succ q ih =>
    intro p fn σ h ht h24 hp hf
    obtain ⟨fn, rfl⟩ : ∃ q, fn = q + 1 := ⟨fn - 1, by omega⟩
    have hn := h.2.1
    have hB := h.2.2.2 p
    have e1 : nI (B p) = (32 : Int32) ↔ B p = 32 := n_eq (b := 32) (by omega) (by decide)
    have e2 : nI (B p) = (10 : Int32) ↔ B p = 10 := n_eq (b := 10) (by omega) (by decide)
    have go : ∃ σ', L_X9_next_39 fu (L_X9_next_0 fu fn) σ = some σ' ∧ σ'.1 56 24 = nI (lx_at B n (lx_b B q (p + 1))).2 ∧ σ'.1 56 25 = nI (lx_b B q (p + 1)) ∧ σ'.1 56 26 = y_t (lx_at B n (lx_b B q (p + 1))).1 ∧ y_v (lx_at B n (lx_b B q (p + 1))).1 (σ'.1 56 27) ∧ m_lfr σ σ' := by
      rw [L_X9_next_39, h24, show (1 : Int32) = nI 1 from rfl, n_add, e_let]
      have w := m_lfr.w σ (j := 24) (by omega) (nI (p + 1))
      obtain ⟨σ2, a2, b2, b3, b4, b5, w2⟩ := ih (p + 1) fn _ (h.fr w) (ht.fr w) (g_same _ _ _ _) (by omega) (by omega)
      exact ⟨σ2, a2, b2, b3, b4, b5, w.tr w2⟩
    rw [L_X9_next_0, h.1, h24, if_neg (by rw [n_le (by omega) (by omega)]; omega), e_ckn _ (by omega) (by omega), e_ckn _ (by omega) (by omega), n_cl (a := p) (by omega), h.2.2.1 p (by omega), lx_b]
    simp only [e1, e2]
    by_cases c1 : B p = 32
    · rw [if_pos c1, if_pos (Or.inl c1)]; exact go
    · rw [if_neg c1]
      by_cases c2 : B p = 10
      · rw [if_pos c2, if_pos (Or.inr c2)]; exact go
      · rw [if_neg c2, if_neg (by omega)]
        exact s_next_end fu hfu h ht (by omega) h24
theorem s_X9_next (fu : Nat) (hfu : 1000 ≤ fu) {B : Nat → Nat} {n p : Nat} {σ : ow_S} (h : m_by σ B n) (ht : m_tab σ) (hp : p ≤ n) (h24 : σ.1 56 24 = nI p) : ∃ σ', f_X9_next fu σ = some σ' ∧ σ'.1 56 24 = nI (lx_nx B n p) ∧ σ'.1 56 25 = nI (lx_pl B n p) ∧ σ'.1 56 26 = y_t (lx_tk B n p) ∧ y_v (lx_tk B n p) (σ'.1 56 27) ∧ m_lfr σ σ' := by
  have hn := h.2.1
  rw [f_X9_next]
  exact s_next_loop fu hfu (n - p) p fu σ h ht h24 (by omega) (by omega)
