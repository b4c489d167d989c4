/-! the model's words turned; the model's row counted -/
def m_g (σ : ow_S) (S : Nat) (g : Nat → Int32) : Prop := σ.1 56 36 = nI S ∧ ∀ p, p < S → σ.1 74 p = g p
theorem m_g.to {σ : ow_S} {S : Nat} {g g' : Nat → Int32} (h : m_g σ S g) (e : ∀ p, p < S → g p = g' p) : m_g σ S g' := ⟨h.1, fun p hp => (h.2 p hp).trans (e p hp)⟩
theorem m_g.ws {σ : ow_S} {S : Nat} {g : Nat → Int32} (h : m_g σ S g) : m_ws σ ((List.range S).map g) := ⟨by rw [l_len_range]; exact h.1, fun p hp => by
  rw [l_len_range] at hp
  rw [h.2 p hp, l_map_range _ hp]⟩
theorem m_g.up {σ : ow_S} {S : Nat} {g : Nat → Int32} (h : m_g σ S g) (i : Nat) (v : Int32) : m_g (ow_sI σ 74 i v) S (fun p => if p = i then v else g p) := ⟨by rw [g_k _ _ (show 56 ≠ 74 by decide)]; exact h.1, fun p hp => by
  rw [g_row]
  by_cases e : p = i
  · subst e; simp [upd]
  · simp only [upd, if_neg e]; exact h.2 p hp⟩
theorem s_X9_t229 (fu : Nat) {σ : ow_S} {S : Nat} {g : Nat → Int32} (h : m_g σ S g) (v : Int32) : ∃ σ', L_X9_turnsOver_229 fu 0 v σ = some σ' ∧ m_g σ' S (fun p => if p = 0 then v else g p) ∧ m_fr σ σ' := by
  refine ⟨_, ?_, h.up 0 v, m_fr.w σ 0 v⟩
  rw [L_X9_turnsOver_229]
  exact e_ckn (i := 0) (L := 60) _ (by decide) (by decide)
theorem s_X9_t208 (fu : Nat) {how : Nat} (hh : how < 3) {σ : ow_S} {S : Nat} {g : Nat → Int32} (h : m_g σ S g) (h0 : 0 < S) (hS : S ≤ 60) (x3 v : Int32) : ∃ σ', L_X9_turnsOver_208 fu (nI how) x3 (nI (S - 1)) v σ = some σ' ∧ m_g σ' S (fun p => if how = 2 ∧ p = 0 then x3 else if p = S - 1 then v else g p) ∧ m_fr σ σ' := by
  have b1 := h.up (S - 1) v
  have w1 := m_fr.w σ (S - 1) v
  rw [L_X9_turnsOver_208, e_ckn _ (by omega) (by omega), n_cl (by omega), e_let]
  have e2 : nI how = (2 : Int32) ↔ how = 2 := n_eq (b := 2) (by omega) (by decide)
  simp only [e2]
  by_cases c : how = 2
  · rw [if_pos c]
    obtain ⟨σ2, a2, b2, w2⟩ := s_X9_t229 fu b1 x3
    refine ⟨σ2, a2, b2.to (fun p hp => ?_), w1.tr w2⟩
    (repeat' split) <;> first | rfl | omega | (congr 1; omega)
  · rw [if_neg c]
    obtain ⟨σ2, a2, b2, w2⟩ := s_X9_t229 fu b1 ((ow_sI σ 74 (S - 1) v).1 74 0)
    refine ⟨σ2, a2, b2.to (fun p hp => ?_), w1.tr w2⟩
    rw [b1.2 0 h0]
    dsimp only
    by_cases p0 : p = 0
    · subst p0; (repeat' split) <;> first | rfl | omega | (congr 1; omega)
    · (repeat' split) <;> first | rfl | omega | (congr 1; omega)
theorem s_X9_t178 (fu : Nat) {how : Nat} (hh : how < 3) {σ : ow_S} {S : Nat} {g : Nat → Int32} (h : m_g σ S g) (h0 : 0 < S) (hS : S ≤ 60) (x2 x3 : Int32) : ∃ σ', L_X9_turnsOver_178 fu (nI how) x2 x3 σ = some σ' ∧ m_g σ' S (fun p => if how = 2 ∧ p = 0 then x3 else if how = 1 ∧ p = S - 1 then x2 else g p) ∧ m_fr σ σ' := by
  rw [L_X9_turnsOver_178, h.1, show (1 : Int32) = nI 1 from rfl, n_sub h0]
  have e2 : nI how = nI 1 ↔ how = 1 := n_eq (by omega) (by decide)
  simp only [e2]
  by_cases c : how = 1
  · rw [if_pos c]
    obtain ⟨σ2, a2, b2, w2⟩ := s_X9_t208 fu hh h h0 hS x3 x2
    refine ⟨σ2, a2, b2.to (fun p hp => ?_), w2⟩
    (repeat' split) <;> first | rfl | omega | (congr 1; omega)
  · rw [if_neg c, e_ckn _ (by omega) (by omega), n_cl (by omega)]
    obtain ⟨σ2, a2, b2, w2⟩ := s_X9_t208 fu hh h h0 hS x3 (σ.1 74 (S - 1))
    refine ⟨σ2, a2, b2.to (fun p hp => ?_), w2⟩
    rw [h.2 (S - 1) (by omega)]
    (repeat' split) <;> first | rfl | omega | (congr 1; omega)
theorem s_X9_t146 (fu : Nat) {how : Nat} (hh : how < 3) {S : Nat} {g : Nat → Int32} (h0 : 0 < S) (hS : S ≤ 60) (x2 x3 : Int32) : ∀ (i fn : Nat) (σ : ow_S), i < S → i < fn → m_g σ S (fun p => if how = 2 ∧ i < p then g (p - 1) else g p) → ∃ σ', L_X9_turnsOver_146 fu fn (nI how) x2 x3 (nI i) σ = some σ' ∧ m_g σ' S (fun p => if how = 2 then (if p = 0 then x3 else g (p - 1)) else if how = 1 ∧ p = S - 1 then x2 else g p) ∧ m_fr σ σ' := by
  intro i
  have e2 : nI how = (2 : Int32) ↔ how = 2 := n_eq (b := 2) (by omega) (by decide)
  have fin : ∀ (i : Nat) (σ : ow_S), (i = 0 ∨ how ≠ 2) → m_g σ S (fun p => if how = 2 ∧ i < p then g (p - 1) else g p) → ∃ σ', L_X9_turnsOver_178 fu (nI how) x2 x3 σ = some σ' ∧ m_g σ' S (fun p => if how = 2 then (if p = 0 then x3 else g (p - 1)) else if how = 1 ∧ p = S - 1 then x2 else g p) ∧ m_fr σ σ' := by
    intro i σ hi h
    obtain ⟨σ2, a2, b2, w2⟩ := s_X9_t178 fu hh h h0 hS x2 x3
    refine ⟨σ2, a2, b2.to (fun p hp => ?_), w2⟩
    (repeat' split) <;> first | rfl | omega | (congr 1; omega)
  induction i with
  | zero =>
    intro fn σ hi hf h
    obtain ⟨fn, rfl⟩ : ∃ q, fn = q + 1 := ⟨fn - 1, by omega⟩
    rw [L_X9_turnsOver_146, if_pos (by decide)]
    exact fin 0 σ (Or.inl rfl) h
  | succ i ih =>
    intro fn σ hi hf h
    obtain ⟨fn, rfl⟩ : ∃ q, fn = q + 1 := ⟨fn - 1, by omega⟩
    rw [L_X9_turnsOver_146, if_neg (nI_nle (by omega) (by omega)), show nI (i + 1) - (1 : Int32) = nI i from nI_pred i]
    simp only [e2]
    by_cases c : how = 2
    · rw [if_pos c, e_ckn _ (by omega) (by omega), e_ckn _ (by omega) (by omega), n_cl (by omega), n_cl (by omega), e_let, e_let, show nI (i + 1) + (-1 : Int32) = nI i from pk_m1 i]
      obtain ⟨σ2, a2, b2, w2⟩ := ih fn _ (by omega) (by omega) ((h.up (i + 1) (σ.1 74 i)).to (fun p hp => by
        rw [h.2 i (by omega)]
        dsimp only
        (repeat' split) <;> first | rfl | omega | (congr 1; omega)))
      exact ⟨σ2, a2, b2, (m_fr.w σ _ _).tr w2⟩
    · rw [if_neg c]
      exact fin (i + 1) σ (Or.inr c) h
theorem s_X9_t100 (fu : Nat) (hfu : 1000 ≤ fu) {how : Nat} (hh : how < 3) {S : Nat} {g : Nat → Int32} (h0 : 0 < S) (hS : S ≤ 60) (x2 x3 : Int32) : ∀ (q i fn : Nat) (σ : ow_S), i + q + 1 = S → q < fn → m_g σ S (fun p => if how = 1 ∧ p < i then g (p + 1) else g p) → ∃ σ', L_X9_turnsOver_100 fu fn (nI how) x2 x3 (nI i) σ = some σ' ∧ m_g σ' S (fun p => if how = 2 then (if p = 0 then x3 else g (p - 1)) else if how = 1 then (if p + 1 = S then x2 else g (p + 1)) else g p) ∧ m_fr σ σ' := by
  intro q
  have e1 : nI how = nI 1 ↔ how = 1 := n_eq (by omega) (by decide)
  have fin : ∀ (i : Nat) (σ : ow_S), (i + 1 = S ∨ how ≠ 1) → m_g σ S (fun p => if how = 1 ∧ p < i then g (p + 1) else g p) → ∃ σ', L_X9_turnsOver_138 fu (nI how) x2 x3 σ = some σ' ∧ m_g σ' S (fun p => if how = 2 then (if p = 0 then x3 else g (p - 1)) else if how = 1 then (if p + 1 = S then x2 else g (p + 1)) else g p) ∧ m_fr σ σ' := by
    intro i σ hi h
    rw [L_X9_turnsOver_138, h.1, show (1 : Int32) = nI 1 from rfl, n_sub h0, e_let]
    by_cases c : how = 1
    · subst c
      obtain ⟨σ2, a2, b2, w2⟩ := s_X9_t146 fu (how := 1) (g := fun p => if p + 1 < S then g (p + 1) else g p) (by decide) h0 hS x2 x3 (S - 1) fu σ (by omega) (by omega) (h.to (fun p hp => by
        (repeat' split) <;> first | rfl | omega | (congr 1; omega)))
      refine ⟨σ2, a2, b2.to (fun p hp => ?_), w2⟩
      (repeat' split) <;> first | rfl | omega | (congr 1; omega)
    · obtain ⟨σ2, a2, b2, w2⟩ := s_X9_t146 fu hh (g := g) h0 hS x2 x3 (S - 1) fu σ (by omega) (by omega) (h.to (fun p hp => by
        (repeat' split) <;> first | rfl | omega | (congr 1; omega)))
      refine ⟨σ2, a2, b2.to (fun p hp => ?_), w2⟩
      (repeat' split) <;> first | rfl | omega | (congr 1; omega)
  induction q with
  | zero =>
    intro i fn σ hi hf h
    obtain ⟨fn, rfl⟩ : ∃ q, fn = q + 1 := ⟨fn - 1, by omega⟩
    rw [L_X9_turnsOver_100, h.1, show (1 : Int32) = nI 1 from rfl, n_add, if_pos (by rw [n_le (by omega) (by omega)]; omega)]
    exact fin i σ (Or.inl (by omega)) h
  | succ q ih =>
    intro i fn σ hi hf h
    obtain ⟨fn, rfl⟩ : ∃ q, fn = q + 1 := ⟨fn - 1, by omega⟩
    rw [L_X9_turnsOver_100, h.1, show (1 : Int32) = nI 1 from rfl, n_add, if_neg (by rw [n_le (by omega) (by omega)]; omega)]
    simp only [e1]
    by_cases c : how = 1
    · rw [if_pos c, e_ckn _ (by omega) (by omega), e_ckn _ (by omega) (by omega), n_cl (by omega), n_cl (by omega), e_let, e_let]
      obtain ⟨σ2, a2, b2, w2⟩ := ih (i + 1) fn _ (by omega) (by omega) ((h.up i (σ.1 74 (i + 1))).to (fun p hp => by
        rw [h.2 (i + 1) (by omega)]
        dsimp only
        (repeat' split) <;> first | rfl | omega | (congr 1; omega)))
      exact ⟨σ2, a2, b2, (m_fr.w σ _ _).tr w2⟩
    · rw [if_neg c]
      exact fin i σ (Or.inr c) h
theorem s_X9_t30 (fu : Nat) (hfu : 1000 ≤ fu) {how : Nat} (hh : how < 3) {S : Nat} {g : Nat → Int32} (h0 : 0 < S) (hS : S ≤ 60) (x2 x3 : Int32) : ∀ (q i fn : Nat) (σ : ow_S), i + q = S / 2 → q < fn → m_g σ S (fun p => if how = 0 ∧ (p < i ∨ S - i ≤ p) then g (S - 1 - p) else g p) → ∃ σ', L_X9_turnsOver_30 fu fn (nI how) x2 x3 (nI i) σ = some σ' ∧ m_g σ' S (fun p => if how = 0 then g (S - 1 - p) else if how = 1 then (if p + 1 = S then x2 else g (p + 1)) else (if p = 0 then x3 else g (p - 1))) ∧ m_fr σ σ' := by
  intro q
  have e0 : nI how = (0 : Int32) ↔ how = 0 := n_eq (b := 0) (by omega) (by decide)
  have fin : ∀ (i : Nat) (σ : ow_S), (i = S / 2 ∨ how ≠ 0) → m_g σ S (fun p => if how = 0 ∧ (p < i ∨ S - i ≤ p) then g (S - 1 - p) else g p) → ∃ σ', L_X9_turnsOver_97 fu (nI how) x2 x3 σ = some σ' ∧ m_g σ' S (fun p => if how = 0 then g (S - 1 - p) else if how = 1 then (if p + 1 = S then x2 else g (p + 1)) else (if p = 0 then x3 else g (p - 1))) ∧ m_fr σ σ' := by
    intro i σ hi h
    rw [L_X9_turnsOver_97, show (0 : Int32) = nI 0 from rfl]
    obtain ⟨σ2, a2, b2, w2⟩ := s_X9_t100 fu hfu hh (g := fun p => if how = 0 then g (S - 1 - p) else g p) h0 hS x2 x3 (S - 1) 0 fu σ (by omega) (by omega) (h.to (fun p hp => by
      (repeat' split) <;> first | rfl | omega | (congr 1; omega)))
    refine ⟨σ2, a2, b2.to (fun p hp => ?_), w2⟩
    rcases (show how = 0 ∨ how = 1 ∨ how = 2 by omega) with rfl | rfl | rfl
    · rfl
    · rfl
    · rfl
  induction q with
  | zero =>
    intro i fn σ hi hf h
    obtain ⟨fn, rfl⟩ : ∃ q, fn = q + 1 := ⟨fn - 1, by omega⟩
    rw [L_X9_turnsOver_30, h.1, show nI S / (2 : Int32) = nI (S / 2) from n_div (b := 2) (by omega) (by decide) (by decide), if_pos (by rw [n_le (by omega) (by omega)]; omega)]
    exact fin i σ (Or.inl (by omega)) h
  | succ q ih =>
    intro i fn σ hi hf h
    obtain ⟨fn, rfl⟩ : ∃ q, fn = q + 1 := ⟨fn - 1, by omega⟩
    rw [L_X9_turnsOver_30, h.1, show nI S / (2 : Int32) = nI (S / 2) from n_div (b := 2) (by omega) (by decide) (by decide), if_neg (by rw [n_le (by omega) (by omega)]; omega)]
    simp only [e0]
    by_cases c : how = 0
    · rw [if_pos c, e_ckn _ (by omega) (by omega), e_let, show (1 : Int32) = nI 1 from rfl, n_sub h0, n_sub (by omega), e_ckn _ (by omega) (by omega), e_ckn _ (by omega) (by omega), e_let]
      rw [g_k _ _ (show 56 ≠ 74 by decide), h.1, n_sub h0, n_sub (by omega), e_ckn _ (by omega) (by omega), n_cl (a := S - 1 - i) (by omega), n_cl (a := i) (by omega), e_let, e_let, n_add]
      obtain ⟨σ2, a2, b2, w2⟩ := ih (i + 1) fn _ (by omega) (by omega) (((h.up i (σ.1 74 (S - 1 - i))).up (S - 1 - i) (σ.1 74 i)).to (fun p hp => by
        rw [h.2 i (by omega), h.2 (S - 1 - i) (by omega)]
        dsimp only
        (repeat' split) <;> first | rfl | omega | (congr 1; omega)))
      exact ⟨σ2, a2, b2, ((m_fr.w σ _ _).tr (m_fr.w _ _ _)).tr w2⟩
    · rw [if_neg c]
      exact fin i σ (Or.inr c) h
theorem s_X9_turnsOver (fu : Nat) (hfu : 1000 ≤ fu) {how : Nat} (hh : how < 3) {l : List Int32} {σ : ow_S} (h : m_ws σ l) (h60 : l.length ≤ 60) : ∃ σ', f_X9_turnsOver fu (nI how) σ = some σ' ∧ m_ws σ' (l_turn how l) ∧ m_fr σ σ' := by
  rw [f_X9_turnsOver, h.1]
  by_cases hz : l.length = 0
  · have : l = [] := List.length_eq_zero_iff.mp hz
    subst this
    exact ⟨σ, if_pos rfl, h, m_fr.rf σ⟩
  · rw [if_neg (by rw [show (0 : Int32) = nI 0 from rfl, n_eq (by omega) (by decide)]; exact hz), e_let, show (1 : Int32) = nI 1 from rfl, n_sub (by omega), e_ckn _ (by omega) (by omega), e_let, n_cl (by omega), show (0 : Int32) = nI 0 from rfl]
    obtain ⟨σ2, a2, b2, w2⟩ := s_X9_t30 fu hfu hh (g := fun p => l.getD p 0) (S := l.length) (by omega) h60 (σ.1 74 0) (σ.1 74 (l.length - 1)) (l.length / 2) 0 fu σ (by omega) (by omega) (m_g.to (g := fun p => l.getD p 0) h (fun p hp => by rw [if_neg (by omega)]))
    refine ⟨σ2, a2, ?_, w2⟩
    rw [h.2 0 (by omega), h.2 _ (by omega)] at b2
    exact b2.ws
theorem s_m_times_loop (fu : Nat) {l : List Int32} (v : Int32) {σ : ow_S} (h : m_row σ l) : ∀ (ls : List Int32) (i c fn : Nat), (∀ j, j < ls.length → l.getD (i + j) 0 = ls.getD j 0) → i + ls.length = l.length → ls.length < fn → L_X9_comings_4 fu fn v (nI c) (nI i) σ = some (nI (c + l_cnt ls v), σ) := by
  intro ls
  have h60 := h.2.1
  induction ls with
  | nil =>
    intro i c fn hC hl hf
    obtain ⟨fn, rfl⟩ : ∃ q, fn = q + 1 := ⟨fn - 1, by simp at hf; omega⟩
    simp only [List.length_nil, Nat.add_zero] at hl
    rw [L_X9_comings_4, h.1, if_pos (by rw [n_le (by omega) (by omega)]; omega)]
    rfl
  | cons x ls ih =>
    intro i c fn hC hl hf
    simp only [List.length_cons] at hl hf hC
    obtain ⟨fn, rfl⟩ : ∃ q, fn = q + 1 := ⟨fn - 1, by omega⟩
    have hx : σ.1 57 i = x := by rw [h.2.2 _ (by omega)]; have := hC 0 (by omega); simpa using this
    have hC' : ∀ j, j < ls.length → l.getD (i + 1 + j) 0 = ls.getD j 0 := fun j hj => by
      rw [show i + 1 + j = i + (j + 1) by omega, hC (j + 1) (by omega), List.getD_cons_succ]
    rw [L_X9_comings_4, h.1, if_neg (by rw [n_le (by omega) (by omega)]; omega), e_ckn _ (by omega) (by omega)]
    simp only [n_cl (a := i) (by omega), hx, L_X9_comings_28, e_let]
    rw [show (1 : Int32) = nI 1 from rfl, show (0 : Int32) = nI 0 from rfl, n_add, n_add, n_add, l_cnt_cons]
    by_cases hb : x = v
    · rw [if_pos hb, if_pos hb, ih (i + 1) (c + 1) fn hC' (by omega) (by omega), Nat.add_assoc]
    · rw [if_neg hb, if_neg hb, ih (i + 1) (c + 0) fn hC' (by omega) (by omega), Nat.zero_add]; rfl
theorem s_X9_comings (fu : Nat) (hfu : 1000 ≤ fu) {l : List Int32} (v : Int32) {σ : ow_S} (h : m_row σ l) : f_X9_comings fu v σ = some (nI (l_cnt l v), σ) := by
  have := s_m_times_loop fu v h l 0 0 fu (fun j _ => by rw [Nat.zero_add]) (by omega) (by have := h.2.1; omega)
  rw [Nat.zero_add] at this
  exact this
theorem s_m_sum_loop (fu : Nat) {l : List Int32} {σ : ow_S} (h : m_row σ l) (x1 : Int32) : ∀ (ls : List Int32) (i fn : Nat) (a : Int32), (∀ j, j < ls.length → l.getD (i + j) 0 = ls.getD j 0) → i + ls.length = l.length → ls.length < fn → L_X9_sumOf_4 fu fn x1 a (nI i) σ = some (l_sumA (fun x => if x1 = 0 then x else x * x) a ls, σ) := by
  intro ls
  have h60 := h.2.1
  induction ls with
  | nil =>
    intro i fn a hC hl hf
    obtain ⟨fn, rfl⟩ : ∃ q, fn = q + 1 := ⟨fn - 1, by simp at hf; omega⟩
    simp only [List.length_nil, Nat.add_zero] at hl
    rw [L_X9_sumOf_4, h.1, if_pos (by rw [n_le (by omega) (by omega)]; omega)]
    rfl
  | cons x ls ih =>
    intro i fn a hC hl hf
    simp only [List.length_cons] at hl hf hC
    obtain ⟨fn, rfl⟩ : ∃ q, fn = q + 1 := ⟨fn - 1, by omega⟩
    have hx : σ.1 57 i = x := by rw [h.2.2 _ (by omega)]; have := hC 0 (by omega); simpa using this
    have hC' : ∀ j, j < ls.length → l.getD (i + 1 + j) 0 = ls.getD j 0 := fun j hj => by
      rw [show i + 1 + j = i + (j + 1) by omega, hC (j + 1) (by omega), List.getD_cons_succ]
    rw [L_X9_sumOf_4, h.1, if_neg (by rw [n_le (by omega) (by omega)]; omega), e_ckn _ (by omega) (by omega), e_ckn _ (by omega) (by omega), e_ckn _ (by omega) (by omega)]
    simp only [n_cl (a := i) (by omega), hx, L_X9_sumOf_39, e_let]
    rw [show (1 : Int32) = nI 1 from rfl, n_add, ih (i + 1) fn _ hC' (by omega) (by omega), ih (i + 1) fn _ hC' (by omega) (by omega), l_sumA]
    by_cases c : x1 = 0
    · simp only [if_pos c]
    · simp only [if_neg c]
theorem s_X9_sumOf (fu : Nat) (hfu : 1000 ≤ fu) {l : List Int32} {σ : ow_S} (h : m_row σ l) (x1 : Int32) : f_X9_sumOf fu x1 σ = some (l_sumA (fun x => if x1 = 0 then x else x * x) 0 l, σ) :=
  s_m_sum_loop fu h x1 l 0 fu 0 (fun j _ => by rw [Nat.zero_add]) (by omega) (by have := h.2.1; omega)
theorem s_m_tw_in (fu : Nat) (k2 : Int32 → ow_S → Option (Int32 × ow_S)) {i : Nat} {c : Nat → Int32} {σ : ow_S} (hi : i < 60) (h : ∀ p, p ≤ i → σ.1 57 p = c p) : ∀ (q j fn : Nat), j + q = i → q < fn → L_X9_firstAgain_12 fu k2 fn (nI i) (nI j) σ = if (∃ z, z < i ∧ j ≤ z ∧ c z = c i) then some (c i, σ) else k2 (nI (i + 1)) σ := by
  intro q
  induction q with
  | zero =>
    intro j fn hj hf
    obtain ⟨fn, rfl⟩ : ∃ q, fn = q + 1 := ⟨fn - 1, by omega⟩
    rw [L_X9_firstAgain_12, if_pos (by rw [n_le (by omega) (by omega)]; omega), e_let, if_neg (by rintro ⟨z, h1, h2, -⟩; omega), show (1 : Int32) = nI 1 from rfl, n_add]
  | succ q ih =>
    intro j fn hj hf
    obtain ⟨fn, rfl⟩ : ∃ q, fn = q + 1 := ⟨fn - 1, by omega⟩
    rw [L_X9_firstAgain_12, if_neg (by rw [n_le (by omega) (by omega)]; omega), e_ckn _ (by omega) (by omega), e_ckn _ (by omega) (by omega), e_ckn _ (by omega) (by omega)]
    simp only [n_cl (a := i) (by omega), n_cl (a := j) (by omega), h i (Nat.le_refl _), h j (by omega), e_let]
    by_cases hb : c j = c i
    · rw [if_pos hb, if_pos ⟨j, by omega, Nat.le_refl _, hb⟩]
    · rw [if_neg hb, show (1 : Int32) = nI 1 from rfl, n_add, ih (j + 1) fn (by omega) (by omega)]
      have : (∃ z, z < i ∧ j + 1 ≤ z ∧ c z = c i) ↔ (∃ z, z < i ∧ j ≤ z ∧ c z = c i) := by
        constructor
        · rintro ⟨z, h1, h2, h3⟩; exact ⟨z, h1, by omega, h3⟩
        · rintro ⟨z, h1, h2, h3⟩
          by_cases hz : z = j
          · subst hz; exact absurd h3 hb
          · exact ⟨z, h1, by omega, h3⟩
      simp only [this, show nI 1 = (1 : Int32) from rfl]
/-- the loop over the row -/
theorem s_m_tw_out (fu : Nat) (hfu : 1000 ≤ fu) {l : List Int32} {σ : ow_S} (h : m_row σ l) : ∀ (ls : List Int32) (i fn : Nat), l = l.take i ++ ls → i + ls.length = l.length → ls.length < fn → L_X9_firstAgain_2 fu fn (nI i) σ = some (l_tw (l.take i) ls, σ) := by
  intro ls
  have h60 := h.2.1
  induction ls with
  | nil =>
    intro i fn hC hl hf
    obtain ⟨fn, rfl⟩ : ∃ q, fn = q + 1 := ⟨fn - 1, by simp at hf; omega⟩
    simp only [List.length_nil, Nat.add_zero] at hl
    rw [L_X9_firstAgain_2, h.1, if_pos (by rw [n_le (by omega) (by omega)]; omega)]
    rfl
  | cons x ls ih =>
    intro i fn hC hl hf
    simp only [List.length_cons] at hl hf
    obtain ⟨fn, rfl⟩ : ∃ q, fn = q + 1 := ⟨fn - 1, by omega⟩
    have hlt : (l.take i).length = i := by rw [List.length_take]; omega
    have hx : l.getD i 0 = x := by
      have : l[i]? = some x := by rw [hC, List.getElem?_append_right (by omega), hlt, Nat.sub_self]; rfl
      rw [List.getD_eq_getElem?_getD, this]; rfl
    have htk : l.take (i + 1) = l.take i ++ [x] := by
      have h1 : l[i]? = some x := by rw [hC, List.getElem?_append_right (by omega), hlt, Nat.sub_self]; rfl
      rw [List.take_add_one, h1]; rfl
    rw [L_X9_firstAgain_2, h.1, if_neg (by rw [n_le (by omega) (by omega)]; omega)]
    have hin := s_m_tw_in fu (L_X9_firstAgain_2 fu fn) (i := i) (c := fun p => l.getD p 0) (σ := σ) (by omega) (fun p hp => h.2.2 p (by omega)) i 0 fu (by omega) (by omega)
    rw [show (0 : Int32) = nI 0 from rfl, hin, hx, l_tw]
    have hmem : (∃ z, z < i ∧ 0 ≤ z ∧ l.getD z 0 = x) ↔ x ∈ l.take i := by
      constructor
      · rintro ⟨z, h1, -, h3⟩
        rw [List.mem_take_iff_getElem]
        refine ⟨z, by omega, ?_⟩
        rw [← h3, List.getD_eq_getElem?_getD, List.getElem?_eq_getElem (by omega)]; rfl
      · intro hm
        rw [List.mem_take_iff_getElem] at hm
        obtain ⟨z, hz, e⟩ := hm
        refine ⟨z, by omega, by omega, ?_⟩
        rw [← e, List.getD_eq_getElem?_getD, List.getElem?_eq_getElem (by omega)]; rfl
    simp only [hmem]
    by_cases e : x ∈ l.take i
    · rw [if_pos e, if_pos e]
    · rw [if_neg e, if_neg e, ih (i + 1) fn (by rw [htk, List.append_assoc]; exact hC) (by omega) (by omega), htk]
theorem s_X9_firstAgain (fu : Nat) (hfu : 1000 ≤ fu) {l : List Int32} {σ : ow_S} (h : m_row σ l) : f_X9_firstAgain fu σ = some (l_tw [] l, σ) := by
  have h60 := h.2.1
  rw [f_X9_firstAgain, show (0 : Int32) = nI 0 from rfl]
  exact s_m_tw_out fu hfu h l 0 fu rfl (by omega) (by omega)
