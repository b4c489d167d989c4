/-! the model's row: the same lists -/
def m_row (σ : ow_S) (l : List Int32) : Prop := σ.1 56 2 = nI l.length ∧ l.length ≤ 60 ∧ ∀ p, p < l.length → σ.1 57 p = l.getD p 0
/-- the words laid -/
def m_ws (σ : ow_S) (l : List Int32) : Prop := σ.1 56 36 = nI l.length ∧ ∀ p, p < l.length → σ.1 74 p = l.getD p 0
/-- nothing else changed -/
def m_fr (σ σ' : ow_S) : Prop := (∀ k z, k ≠ 74 → ¬(k = 56 ∧ z = 36) → σ'.1 k z = σ.1 k z) ∧ σ'.2 = σ.2
theorem m_fr.rf (σ : ow_S) : m_fr σ σ := ⟨fun _ _ _ _ => rfl, rfl⟩
theorem m_fr.tr {a b c : ow_S} (h : m_fr a b) (h' : m_fr b c) : m_fr a c := ⟨fun k z h1 h2 => (h'.1 k z h1 h2).trans (h.1 k z h1 h2), h'.2.trans h.2⟩
theorem m_fr.row {σ σ' : ow_S} (h : m_fr σ σ') {l : List Int32} (hl : m_row σ l) : m_row σ' l := ⟨(h.1 56 2 (by decide) (by decide)).trans hl.1, hl.2.1, fun p hp => (h.1 57 p (by decide) (fun c => absurd c.1 (by decide))).trans (hl.2.2 p hp)⟩
theorem m_fr.w (σ : ow_S) (z : Nat) (v : Int32) : m_fr σ (ow_sI σ 74 z v) := ⟨fun k y h1 _ => by rw [g_k _ _ h1], rfl⟩
theorem m_fr.n (σ : ow_S) (v : Int32) : m_fr σ (ow_sI σ 56 36 v) := ⟨fun k y _ h2 => by
  by_cases e : k = 56
  · subst e; rw [g_row]; exact if_neg (fun e => h2 ⟨rfl, e⟩)
  · rw [g_k _ _ e], rfl⟩
theorem m_add {σ : ow_S} {acc : List Int32} (h : m_ws σ acc) (hl : acc.length < 60) (v : Int32) : ∃ σ', (∀ K : ow_S → Option ow_S, ow_ck (ow_bd (σ.1 56 36) 60) (ow_let (ow_sI σ 74 ((σ.1 56 36).toNatClampNeg) v) fun a => ow_let (ow_sI a 56 36 ((a.1 56 36) + (1 : Int32))) K) = K σ') ∧ m_ws σ' (acc ++ [v]) ∧ m_fr σ σ' := by
  obtain ⟨h1, h3⟩ := h
  refine ⟨ow_sI (ow_sI σ 74 acc.length v) 56 36 (nI (acc.length + 1)), fun K => ?_, ⟨?_, fun p hp => ?_⟩, (m_fr.w σ _ _).tr (m_fr.n _ _)⟩
  · rw [h1, e_ckn _ (by omega) hl, n_cl (by omega), e_let, e_let, g_k _ _ (show 56 ≠ 74 by decide), h1, show (1 : Int32) = nI 1 from rfl, n_add]
  · rw [g_same]; simp
  · rw [g_k _ _ (show 74 ≠ 56 by decide), g_row]
    simp only [List.length_append, List.length_cons, List.length_nil] at hp
    by_cases hq : p = acc.length
    · subst hq; simp [upd]
    · rw [List.getD_eq_getElem?_getD, List.getElem?_append_left (by omega), ← List.getD_eq_getElem?_getD, ← h3 p (by omega)]; simp [upd, hq]
theorem m_ws.nil (σ : ow_S) : m_ws (ow_sI σ 56 36 0) [] := ⟨g_same σ 56 36 0, fun p h => by simp at h⟩
theorem s_X9_laysRow_loop (fu : Nat) {l : List Int32} : ∀ (q i fn : Nat) (σ : ow_S), m_row σ l → σ.1 56 36 = nI l.length → (∀ p, p < i → σ.1 74 p = l.getD p 0) → i + q = l.length → q < fn → ∃ σ', L_X9_laysRow_10 fu fn (nI i) σ = some σ' ∧ m_ws σ' l ∧ m_fr σ σ' := by
  intro q
  induction q with
  | zero =>
    intro i fn σ hr hn hw hi hf
    obtain ⟨fn, rfl⟩ : ∃ q, fn = q + 1 := ⟨fn - 1, by omega⟩
    have h60 := hr.2.1
    refine ⟨σ, ?_, ⟨hn, fun p hp => hw p (by omega)⟩, m_fr.rf σ⟩
    rw [L_X9_laysRow_10, hr.1, if_pos (by rw [n_le (by omega) (by omega)]; omega)]
  | succ q ih =>
    intro i fn σ hr hn hw hi hf
    obtain ⟨fn, rfl⟩ : ∃ q, fn = q + 1 := ⟨fn - 1, by omega⟩
    have h60 := hr.2.1
    rw [L_X9_laysRow_10, hr.1, if_neg (by rw [n_le (by omega) (by omega)]; omega), e_ckn _ (by omega) (by omega), e_ckn _ (by omega) (by omega), n_cl (by omega), hr.2.2 i (by omega), e_let, e_let, show (1 : Int32) = nI 1 from rfl, n_add]
    have w1 := m_fr.w σ i (l.getD i 0)
    obtain ⟨σ2, a2, b2, w2⟩ := ih (i + 1) fn (ow_sI σ 74 i (l.getD i 0)) (w1.row hr) ((g_k _ _ (show 56 ≠ 74 by decide)).symm ▸ hn) (fun p hp => by
      rw [g_row]
      by_cases e : p = i
      · subst e; simp [upd]
      · simp only [upd, if_neg e]; exact hw p (by omega)) (by omega) (by omega)
    exact ⟨σ2, a2, b2, w1.tr w2⟩
theorem s_X9_laysRow (fu : Nat) (hfu : 1000 ≤ fu) {l : List Int32} {σ : ow_S} (h : m_row σ l) : ∃ σ', f_X9_laysRow fu σ = some σ' ∧ m_ws σ' l ∧ m_fr σ σ' := by
  have w1 := m_fr.n σ (nI l.length)
  have h60 := h.2.1
  rw [f_X9_laysRow, h.1, e_let]
  obtain ⟨σ2, a2, b2, w2⟩ := s_X9_laysRow_loop fu l.length 0 fu (ow_sI σ 56 36 (nI l.length)) (w1.row h) (g_same _ _ _ _) (fun p hp => absurd hp (by omega)) (by omega) (by omega)
  exact ⟨σ2, a2, b2, w1.tr w2⟩
theorem s_X9_but_loop (fu : Nat) {P : Nat} (hP : P ≤ 52) (but way : Int32) : ∀ (q i : Nat) (acc : List Int32) (fn : Nat) (σ : ow_S), σ.1 56 0 = nI P → m_ws σ acc → acc.length ≤ i → i + q = P → q < fn → ∃ σ', L_X9_laysBut_7 fu fn but way (nI (i + 1)) σ = some σ' ∧ m_ws σ' (acc ++ (((List.range' i q).map (fun i => if way = 0 then nI (i + 1) else nI (P - i))).filter (fun v => decide (v ≠ but)))) ∧ m_fr σ σ' := by
  intro q
  induction q with
  | zero =>
    intro i acc fn σ hp hr ha hi hf
    obtain ⟨fn, rfl⟩ : ∃ q, fn = q + 1 := ⟨fn - 1, by omega⟩
    refine ⟨σ, ?_, by simpa using hr, m_fr.rf σ⟩
    rw [L_X9_laysBut_7, hp, if_pos (by rw [n_lt (by omega) (by omega)]; omega)]
  | succ q ih =>
    intro i acc fn σ hp hr ha hi hf
    obtain ⟨fn, rfl⟩ : ∃ q, fn = q + 1 := ⟨fn - 1, by omega⟩
    rw [L_X9_laysBut_7, hp, if_neg (by rw [n_lt (by omega) (by omega)]; omega)]
    have e1 : (nI P + (1 : Int32)) - nI (i + 1) = nI (P - i) := by
      rw [show (1 : Int32) = nI 1 from rfl, n_add, n_sub (by omega)]
      congr 1; omega
    have key : ∀ v : Int32, v = (if way = 0 then nI (i + 1) else nI (P - i)) → ∃ σ', L_X9_laysBut_31 fu (L_X9_laysBut_7 fu fn) but way (nI (i + 1)) v σ = some σ' ∧ m_ws σ' (acc ++ (((List.range' i (q + 1)).map (fun i => if way = 0 then nI (i + 1) else nI (P - i))).filter (fun v => decide (v ≠ but)))) ∧ m_fr σ σ' := by
      intro v hv
      simp only [L_X9_laysBut_31, L_X9_laysBut_60]
      rw [List.range'_succ, List.map_cons, List.filter_cons, ← hv]
      by_cases hb : v = but
      · rw [if_pos hb, if_neg (by simp [hb]), e_let, show (1 : Int32) = nI 1 from rfl, n_add]
        exact ih (i + 1) acc fn σ hp hr (by omega) (by omega) (by omega)
      · rw [if_neg hb, if_pos (by simp [hb])]
        obtain ⟨σ1, a1, b1, w1⟩ := m_add hr (by omega) v
        rw [a1, e_let, show (1 : Int32) = nI 1 from rfl, n_add]
        obtain ⟨σ2, a2, b2, w2⟩ := ih (i + 1) (acc ++ [v]) fn σ1 ((w1.1 56 0 (by decide) (by decide)).trans hp) b1 (by simp; omega) (by omega) (by omega)
        exact ⟨σ2, a2, by simpa using b2, w1.tr w2⟩
    by_cases hw : way = 0
    · rw [if_pos hw]
      exact key _ (by rw [if_pos hw])
    · rw [if_neg hw, e1]
      exact key _ (by rw [if_neg hw])
theorem s_X9_laysBut (fu : Nat) (hfu : 1000 ≤ fu) {P : Nat} (hP : P ≤ 52) (but way : Int32) {σ : ow_S} (hp : σ.1 56 0 = nI P) : ∃ σ', f_X9_laysBut fu but way σ = some σ' ∧ m_ws σ' (l_but P but way) ∧ m_fr σ σ' := by
  have w1 := m_fr.n σ 0
  rw [f_X9_laysBut, e_let]
  obtain ⟨σ2, a2, b2, w2⟩ := s_X9_but_loop fu hP but way P 0 [] fu _ ((w1.1 56 0 (by decide) (by decide)).trans hp) (m_ws.nil σ) (Nat.le_refl _) (by omega) (by omega)
  refine ⟨σ2, a2, ?_, w1.tr w2⟩
  rw [← List.range_eq_range'] at b2
  exact b2
theorem s_X9_half_loop (fu : Nat) {f : Nat} (hf2 : f < 2) {l : List Int32} : ∀ (q i : Nat) (ls acc : List Int32) (fn : Nat) (σ : ow_S), ls.length ≤ q → i % 2 = f → m_row σ l → m_ws σ acc → acc.length ≤ i → (∀ j, j < ls.length → l.getD (i + j) 0 = ls.getD j 0) → l.length ≤ i + ls.length → i ≤ l.length + 1 → (ls ≠ [] → i + ls.length = l.length) → q < fn → ∃ σ', L_X9_laysHalf_7 fu fn (nI i) σ = some σ' ∧ m_ws σ' (acc ++ l_half ls i f) ∧ m_fr σ σ' := by
  intro q
  induction q using Nat.strongRecOn with
  | _ q ih =>
    intro i ls acc fn σ hq hm hr hw ha hC hl hi2 hl2 hf
    obtain ⟨fn, rfl⟩ : ∃ q, fn = q + 1 := ⟨fn - 1, by omega⟩
    have h60 := hr.2.1
    match ls, hq, hC, hl, hl2 with
    | [], hq, hC, hl, hl2 =>
      simp only [List.length_nil, Nat.add_zero] at hl
      refine ⟨σ, ?_, by simpa [l_half] using hw, m_fr.rf σ⟩
      rw [L_X9_laysHalf_7, hr.1, if_pos (by rw [n_le (by omega) (by omega)]; omega)]
    | x :: ls, hq, hC, hl, hl2 =>
      have hl3 := hl2 (by simp)
      simp only [List.length_cons] at hq hC hl hl3
      have hx : σ.1 57 i = x := by rw [hr.2.2 _ (by omega)]; have := hC 0 (by omega); simpa using this
      rw [L_X9_laysHalf_7, hr.1, if_neg (by rw [n_le (by omega) (by omega)]; omega), e_ckn _ (by omega) (by omega), n_cl (by omega), hx, l_half, if_pos hm]
      obtain ⟨σ1, a1, b1, w1⟩ := m_add hw (by omega) x
      rw [a1, e_let, show (2 : Int32) = nI 2 from rfl, n_add]
      match ls, hq, hC, hl, hl3 with
      | [], hq, hC, hl, hl3 =>
        obtain ⟨σ2, a2, b2, w2⟩ := ih 0 (by omega) (i + 2) [] (acc ++ [x]) fn σ1 (Nat.le_refl _) (by omega) (w1.row hr) b1 (by simp; omega) (fun j hj => by simp at hj) (by simp at hl3 ⊢; omega) (by simp at hl3; omega) (fun h => absurd rfl h) (by simp at hq; omega)
        exact ⟨σ2, a2, by simpa [l_half] using b2, w1.tr w2⟩
      | y :: ls, hq, hC, hl, hl3 =>
        simp only [List.length_cons] at hq hC hl hl3
        obtain ⟨σ2, a2, b2, w2⟩ := ih (q - 2) (by omega) (i + 2) ls (acc ++ [x]) fn σ1 (by omega) (by omega) (w1.row hr) b1 (by simp; omega) (fun j hj => by
          rw [show i + 2 + j = i + (j + 2) by omega, hC (j + 2) (by omega)]; rfl) (by omega) (by omega) (fun _ => by omega) (by omega)
        refine ⟨σ2, a2, ?_, w1.tr w2⟩
        rw [l_half, if_neg (by omega)]
        simpa using b2
theorem s_X9_laysHalf (fu : Nat) (hfu : 1000 ≤ fu) {f : Nat} (hf2 : f < 2) {l : List Int32} {σ : ow_S} (h : m_row σ l) : ∃ σ', f_X9_laysHalf fu (nI f) σ = some σ' ∧ m_ws σ' (l_half l 0 f) ∧ m_fr σ σ' := by
  have w1 := m_fr.n σ 0
  have h60 := h.2.1
  rw [f_X9_laysHalf, e_let]
  rcases (show f = 0 ∨ f = 1 by omega) with rfl | rfl
  · obtain ⟨σ2, a2, b2, w2⟩ := s_X9_half_loop fu (f := 0) (by decide) l.length 0 l [] fu _ (Nat.le_refl _) rfl (w1.row h) (m_ws.nil σ) (Nat.le_refl _) (fun j _ => by rw [Nat.zero_add]) (by omega) (by omega) (fun _ => by omega) (by omega)
    exact ⟨σ2, a2, b2, w1.tr w2⟩
  · match l, h, h60 with
    | [], h, h60 =>
      obtain ⟨σ2, a2, b2, w2⟩ := s_X9_half_loop fu (f := 1) (by decide) 0 1 [] [] fu _ (Nat.le_refl _) rfl (w1.row h) (m_ws.nil σ) (by decide) (fun j hj => by simp at hj) (by simp) (by simp) (fun h => absurd rfl h) (by omega)
      exact ⟨σ2, a2, b2, w1.tr w2⟩
    | x :: ls, h, h60 =>
      simp only [List.length_cons] at h60
      obtain ⟨σ2, a2, b2, w2⟩ := s_X9_half_loop fu (f := 1) (by decide) ls.length 1 ls [] fu _ (Nat.le_refl _) rfl (w1.row h) (m_ws.nil σ) (by decide) (fun j hj => by rw [Nat.add_comm, List.getD_cons_succ]) (by simp; omega) (by simp) (fun _ => by simp; omega) (by omega)
      exact ⟨σ2, a2, by simpa [l_half] using b2, w1.tr w2⟩
theorem s_X9_wo_loop (fu : Nat) {f : Nat} (hf2 : f < 1000) {l : List Int32} : ∀ (ls : List Int32) (i : Nat) (acc : List Int32) (fn : Nat) (σ : ow_S), m_row σ l → m_ws σ acc → acc.length ≤ i → (∀ j, j < ls.length → l.getD (i + j) 0 = ls.getD j 0) → i + ls.length = l.length → ls.length < fn → ∃ σ', L_X9_laysWithout_7 fu fn (nI f) (nI i) σ = some σ' ∧ m_ws σ' (acc ++ l_wo ls i f) ∧ m_fr σ σ' := by
  intro ls
  induction ls with
  | nil =>
    intro i acc fn σ hr hw ha hC hl hf
    obtain ⟨fn, rfl⟩ : ∃ q, fn = q + 1 := ⟨fn - 1, by simp at hf; omega⟩
    have h60 := hr.2.1
    simp only [List.length_nil, Nat.add_zero] at hl
    refine ⟨σ, ?_, by simpa [l_wo] using hw, m_fr.rf σ⟩
    rw [L_X9_laysWithout_7, hr.1, if_pos (by rw [n_le (by omega) (by omega)]; omega)]
  | cons x ls ih =>
    intro i acc fn σ hr hw ha hC hl hf
    simp only [List.length_cons] at hl hf hC
    obtain ⟨fn, rfl⟩ : ∃ q, fn = q + 1 := ⟨fn - 1, by omega⟩
    have h60 := hr.2.1
    have hx : σ.1 57 i = x := by rw [hr.2.2 _ (by omega)]; have := hC 0 (by omega); simpa using this
    have hC' : ∀ j, j < ls.length → l.getD (i + 1 + j) 0 = ls.getD j 0 := fun j hj => by
      rw [show i + 1 + j = i + (j + 1) by omega, hC (j + 1) (by omega), List.getD_cons_succ]
    rw [L_X9_laysWithout_7, hr.1, if_neg (by rw [n_le (by omega) (by omega)]; omega), l_wo]
    by_cases hb : i = f
    · rw [if_pos (by rw [hb]), if_pos hb]
      simp only [L_X9_laysWithout_45, e_let]
      rw [show (1 : Int32) = nI 1 from rfl, n_add]
      exact ih (i + 1) acc fn σ hr hw (by omega) hC' (by omega) (by omega)
    · rw [if_neg (by rw [n_eq (by omega) (by omega)]; exact hb), if_neg hb, e_ckn _ (by omega) (by omega), n_cl (by omega), hx]
      obtain ⟨σ1, a1, b1, w1⟩ := m_add hw (by omega) x
      rw [a1]
      simp only [L_X9_laysWithout_45, e_let]
      rw [show (1 : Int32) = nI 1 from rfl, n_add]
      obtain ⟨σ2, a2, b2, w2⟩ := ih (i + 1) (acc ++ [x]) fn σ1 (w1.row hr) b1 (by simp; omega) hC' (by omega) (by omega)
      exact ⟨σ2, a2, by simpa using b2, w1.tr w2⟩
theorem s_X9_laysWithout (fu : Nat) (hfu : 1000 ≤ fu) {f : Nat} (hf2 : f < 1000) {l : List Int32} {σ : ow_S} (h : m_row σ l) : ∃ σ', f_X9_laysWithout fu (nI f) σ = some σ' ∧ m_ws σ' (l_wo l 0 f) ∧ m_fr σ σ' := by
  have w1 := m_fr.n σ 0
  have h60 := h.2.1
  rw [f_X9_laysWithout, e_let]
  obtain ⟨σ2, a2, b2, w2⟩ := s_X9_wo_loop fu hf2 l 0 [] fu _ (w1.row h) (m_ws.nil σ) (Nat.le_refl _) (fun j _ => by rw [Nat.zero_add]) (by omega) (by omega)
  exact ⟨σ2, a2, b2, w1.tr w2⟩
