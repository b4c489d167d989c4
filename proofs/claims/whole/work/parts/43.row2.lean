/-! deal, missing, truth, two -/
theorem s_m_deal (fu : Nat) {x1 : Int32} (x2 : Int32) {S : Nat} (hS : S ≤ 60) : ∀ (ls : List Int32) (i : Nat) (acc : List Int32) (fn : Nat) (M : ow_S), M.1 56 2 = nI S → acc.length ≤ i → (∀ p, p < acc.length → M.1 57 p = acc.getD p 0) → (∀ j, j < ls.length → M.1 57 (i + j) = ls.getD j 0) → i + ls.length = S → ls.length < fn → ∃ M', L_X9_deal_23 fu fn x1 x2 (nI acc.length) (nI i) M = some (x2, M') ∧ M'.1 56 0 = x1 ∧ M'.1 56 2 = nI (acc ++ l_le ls x1).length ∧ (∀ p, p < (acc ++ l_le ls x1).length → M'.1 57 p = (acc ++ l_le ls x1).getD p 0) ∧ (∀ c, c ≠ 56 → c ≠ 57 → M'.1 c = M.1 c) ∧ ∀ z, z ≠ 0 → z ≠ 2 → M'.1 56 z = M.1 56 z := by
  intro ls
  induction ls with
  | nil =>
    intro i acc fn M h2 ha hA hC hl hf
    obtain ⟨fn, rfl⟩ : ∃ q, fn = q + 1 := ⟨fn - 1, by simp at hf; omega⟩
    simp only [List.length_nil, Nat.add_zero] at hl
    refine ⟨ow_sI (ow_sI M 56 2 (nI acc.length)) 56 0 x1, ?_, g_same _ _ _ _, ?_, fun p hp => ?_, fun c c1 c2 => ?_, fun z z1 z2 => ?_⟩
    · rw [L_X9_deal_23, h2, if_pos (by rw [n_le (by omega) (by omega)]; omega), e_let, e_let]
    · rw [g_j _ _ (show 2 ≠ 0 by decide), g_same]; simp [l_le]
    · rw [g_k _ _ (show 57 ≠ 56 by decide), g_k _ _ (show 57 ≠ 56 by decide)]
      simp only [l_le, List.filter_nil, List.append_nil] at hp ⊢
      exact hA p hp
    · rw [g_k _ _ c1, g_k _ _ c1]
    · rw [g_j _ _ z1, g_j _ _ z2]
  | cons x ls ih =>
    intro i acc fn M h2 ha hA hC hl hf
    simp only [List.length_cons] at hl hf hC
    obtain ⟨fn, rfl⟩ : ∃ q, fn = q + 1 := ⟨fn - 1, by omega⟩
    have hx : M.1 57 i = x := by have := hC 0 (by omega); simpa using this
    have hC' : ∀ j, j < ls.length → M.1 57 (i + 1 + j) = ls.getD j 0 := fun j hj => by
      rw [show i + 1 + j = i + (j + 1) by omega, hC (j + 1) (by omega), List.getD_cons_succ]
    rw [L_X9_deal_23, h2, if_neg (by rw [n_le (by omega) (by omega)]; omega), e_ckn _ (by omega) (by omega)]
    simp only [n_cl (a := i) (by omega), hx, l_le, List.filter_cons]
    by_cases hb : x1 < x
    · rw [if_pos hb, if_neg (by simpa using hb)]
      simp only [L_X9_deal_59, e_let]
      rw [show (1 : Int32) = nI 1 from rfl, n_add]
      exact ih (i + 1) acc fn M h2 (by omega) hA hC' (by omega) (by omega)
    · rw [if_neg hb, if_pos (by simpa using hb), e_ckn _ (by omega) (by omega), e_ckn _ (by omega) (by omega)]
      simp only [n_cl (a := acc.length) (by omega), L_X9_deal_59, e_let]
      rw [show (1 : Int32) = nI 1 from rfl, n_add, n_add]
      obtain ⟨M', r1, r2, r3, r4, r5, r6⟩ := ih (i + 1) (acc ++ [x]) fn (ow_sI M 57 acc.length x) (by rw [g_k _ _ (show 56 ≠ 57 by decide)]; exact h2) (by simp; omega) (fun p hp => by
        rw [g_row]
        simp only [List.length_append, List.length_cons, List.length_nil] at hp
        by_cases e : p = acc.length
        · subst e; simp [upd]
        · rw [List.getD_eq_getElem?_getD, List.getElem?_append_left (by omega), ← List.getD_eq_getElem?_getD, ← hA p (by omega)]; simp [upd, e]) (fun j hj => by
        rw [g_j _ _ (show i + 1 + j ≠ acc.length by omega)]; exact hC' j hj) (by omega) (by omega)
      rw [List.length_append] at r1
      refine ⟨M', r1, r2, ?_, ?_, fun c c1 c2 => by rw [r5 c c1 c2, g_k _ _ c2], fun z z1 z2 => by rw [r6 z z1 z2, g_k _ _ (show 56 ≠ 57 by decide)]⟩
      · simpa [l_le] using r3
      · simpa [l_le] using r4
theorem o_deal (fu : Nat) (hfu : 1000 ≤ fu) (a : Int32) : sameI (f_X8_deal fu a) (f_X9_deal fu a) := by
  intro X M h
  obtain ⟨P, l, p1, p2, p3, p4, p5, p6, p7, p8⟩ := h.1
  have h60 := p5.2.1
  rw [f_X8_deal, f_X9_deal, s_in, e_cl]
  by_cases c0 : a < 1
  · rw [if_pos c0, if_pos c0, if_pos rfl]; exact ⟨_, _, _, rfl, rfl, h⟩
  rw [if_neg c0, if_neg c0]
  obtain ⟨j, hj, rfl⟩ := n_of (show ¬ a < 0 from fun h => c0 (Int32.lt_trans h (by decide)))
  have hj1 : 1 ≤ j := by rw [show (1 : Int32) = nI 1 from rfl, n_lt (by omega) (by decide)] at c0; omega
  have e1 : nI j ≤ (52 : Int32) ↔ j ≤ 52 := n_le (b := 52) hj (by decide)
  have e2 : (52 : Int32) < nI j ↔ 52 < j := n_lt (a := 52) (by decide) hj
  simp only [e1, e2]
  by_cases c : j ≤ 52
  · rw [if_pos c, if_neg (show ¬ 52 < j by omega), if_neg (by decide), p3, p4, e_let, e_let, e_let]
    have wr : x_row (ow_sI X 0 11 (nI j)).1 1 l := by
      unfold x_row; rw [g_k _ _ (show 1 ≠ 0 by decide), g_k _ _ (show 1 + 1 ≠ 0 by decide)]; exact p5
    obtain ⟨X1, a1, a2, a3⟩ := s_X4_dropAbove fu hfu wr (nI j)
    obtain ⟨M', r1, r2, r3, r4, r5, r6⟩ := s_m_deal fu (x1 := nI j) (nI P) h60 l 0 [] fu M p6 (Nat.le_refl _) (fun p hp => by simp at hp) (fun q hq => by rw [Nat.zero_add]; exact p7 q hq) (by omega) (by omega)
    rw [a1, e_cv, show (0 : Int32) = nI 0 from rfl, show nI 0 = nI ([] : List Int32).length from rfl, show nI ([] : List Int32).length = nI 0 from rfl]
    simp only [List.nil_append, List.length_nil] at r1 r3 r4
    refine ⟨_, _, _, rfl, r1, h.row (fun c c0 c1 c2 => ?_) (fun z hz => ?_) (fun c h1 h2 h3 => r5 c h2 h3) (fun z z1 z2 z3 => r6 z z1 z2) ⟨j, l_le l (nI j), hj1, c, ?_, r2, a2, r3, r4, fun v hv => ?_⟩⟩
    · rw [a3.1 c c1 c2, g_k _ _ c0]
    · rw [a3.1 0 (by decide) (by decide), g_j _ _ hz]
    · rw [a3.1 0 (by decide) (by decide), g_same]
    · unfold l_le at hv
      rw [List.mem_filter] at hv
      obtain ⟨b, b1, b2, rfl⟩ := p8 v hv.1
      refine ⟨b, b1, ?_, rfl⟩
      have := hv.2
      simp only [decide_eq_true_eq] at this
      exact (n_le (by omega) hj).mp this
  · rw [if_neg c, if_pos (show 52 < j by omega), if_pos rfl]; exact ⟨_, _, _, rfl, rfl, h⟩
theorem s_missing_loop (fu : Nat) (hfu : 1000 ≤ fu) {X M : ow_S} {P : Nat} {l : List Int32} (hP : P ≤ 52) (p3 : X.1 0 11 = nI P) (p4 : M.1 56 0 = nI P) (hx : x_row X.1 1 l) (hm : m_row M l) {j : Nat} (hj : j < 52) : ∀ (q i c fn : Nat), i + q = P + 1 → c ≤ j → q < fn → ∃ r, L_X8_missing_17 fu fn (nI j) (nI c) (nI i) X = some (r, X) ∧ L_X9_missing_17 fu fn (nI (j - c)) (nI i) M = some (r, M) := by
  intro q
  induction q with
  | zero =>
    intro i c fn hi hc hf
    obtain ⟨fn, rfl⟩ : ∃ q, fn = q + 1 := ⟨fn - 1, by omega⟩
    refine ⟨-1, ?_, ?_⟩
    · rw [L_X8_missing_17, p3, if_pos (by rw [n_lt (by omega) (by omega)]; omega)]
    · rw [L_X9_missing_17, p4, if_pos (by rw [n_lt (by omega) (by omega)]; omega)]
  | succ q ih =>
    intro i c fn hi hc hf
    obtain ⟨fn, rfl⟩ : ∃ q, fn = q + 1 := ⟨fn - 1, by omega⟩
    have hl := l_cnt_le l (nI i)
    have h60 := hx.2.1
    have e0 : nI (l_cnt l (nI i)) = (0 : Int32) ↔ l_cnt l (nI i) = 0 := n_eq (b := 0) (by omega) (by decide)
    have e1 : nI c = nI j ↔ c = j := n_eq (by omega) (by omega)
    have e2 : nI (j - c) = (0 : Int32) ↔ c = j := (n_eq (b := 0) (by omega) (by decide)).trans (by omega)
    rw [L_X8_missing_17, L_X9_missing_17, p3, p4, if_neg (by rw [n_lt (by omega) (by omega)]; omega), if_neg (by rw [n_lt (by omega) (by omega)]; omega), s_X4_timesOf fu hfu (nI i) hx, s_X9_comings fu hfu (nI i) hm, e_cl, e_cl]
    simp only [e0, e1, e2, L_X8_missing_46, L_X9_missing_42, e_let, show nI i + (1 : Int32) = nI (i + 1) from n_add i 1, show nI c + (1 : Int32) = nI (c + 1) from n_add c 1]
    by_cases h0 : l_cnt l (nI i) = 0
    · rw [if_pos h0, if_pos h0]
      by_cases h1 : c = j
      · rw [if_pos h1, if_pos h1]; exact ⟨_, rfl, rfl⟩
      · rw [if_neg h1, if_neg h1, show nI (j - c) + (-1 : Int32) = nI (j - (c + 1)) by rw [show j - c = (j - (c + 1)) + 1 by omega]; exact pk_m1 _]
        exact ih (i + 1) (c + 1) fn (by omega) (by omega) (by omega)
    · rw [if_neg h0, if_neg h0]
      exact ih (i + 1) c fn (by omega) hc (by omega)
theorem o_missing (fu : Nat) (hfu : 1000 ≤ fu) (a : Int32) : sameI (f_X8_missing fu a) (f_X9_missing fu a) := by
  intro X M h
  obtain ⟨P, l, p1, p2, p3, p4, p5, p6, p7, p8⟩ := h.1
  have h60 := p5.2.1
  rw [f_X8_missing, f_X9_missing, s_in, e_cl]
  by_cases c0 : a < 0
  · rw [if_pos c0, if_pos c0, if_pos rfl]; exact ⟨_, _, _, rfl, rfl, h⟩
  rw [if_neg c0, if_neg c0]
  obtain ⟨j, hj, rfl⟩ := n_of c0
  have e1 : nI j < (52 : Int32) ↔ j < 52 := n_lt (b := 52) hj (by decide)
  have e2 : (51 : Int32) < nI j ↔ 51 < j := n_lt (a := 51) (by decide) hj
  simp only [e1, e2]
  by_cases c : j < 52
  · obtain ⟨r, r1, r2⟩ := s_missing_loop fu hfu p2 p3 p4 p5 ⟨p6, h60, p7⟩ c P 1 0 fu (by omega) (by omega) (by omega)
    rw [if_pos c, if_neg (show ¬ 51 < j by omega), if_neg (by decide)]
    exact ⟨r, X, M, r1, r2, h⟩
  · rw [if_neg c, if_pos (show 51 < j by omega), if_pos rfl]; exact ⟨_, _, _, rfl, rfl, h⟩
/-- unlike cards, the commonest: the loops step alike -/
theorem s_unlike_loop (fu : Nat) (hfu : 1000 ≤ fu) {X M : ow_S} {P : Nat} {l : List Int32} (hP : P ≤ 52) (p3 : X.1 0 11 = nI P) (p4 : M.1 56 0 = nI P) (hx : x_row X.1 1 l) (hm : m_row M l) : ∀ (q i fn : Nat) (c b : Int32), i + q = P + 1 → q < fn → (∃ r, L_X8_unlikeCards_4 fu fn c (nI i) X = some (r, X) ∧ L_X9_unlikeMany_4 fu fn c (nI i) M = some (r, M)) ∧ ((b = -1 ∨ ∃ z : Nat, b = nI z ∧ z ≤ 52) → ∃ r, (r = -1 ∨ ∃ z : Nat, r = nI z ∧ z ≤ 52) ∧ L_X8_commonestCard_6 fu fn b c (nI i) X = some (r, X) ∧ L_X9_mostComing_6 fu fn b c (nI i) M = some (r, M)) := by
  intro q
  induction q with
  | zero =>
    intro i fn c b hi hf
    obtain ⟨fn, rfl⟩ : ∃ q, fn = q + 1 := ⟨fn - 1, by omega⟩
    have hlt : nI P < nI i := by rw [n_lt (by omega) (by omega)]; omega
    refine ⟨⟨c, ?_, ?_⟩, fun hb => ⟨b, hb, ?_, ?_⟩⟩
    · rw [L_X8_unlikeCards_4, p3, if_pos hlt]
    · rw [L_X9_unlikeMany_4, p4, if_pos hlt]
    · rw [L_X8_commonestCard_6, p3, if_pos hlt]
    · rw [L_X9_mostComing_6, p4, if_pos hlt]
  | succ q ih =>
    intro i fn c b hi hf
    obtain ⟨fn, rfl⟩ : ∃ q, fn = q + 1 := ⟨fn - 1, by omega⟩
    have hlt : ¬ nI P < nI i := by rw [n_lt (by omega) (by omega)]; omega
    rw [L_X8_unlikeCards_4, L_X9_unlikeMany_4, L_X8_commonestCard_6, L_X9_mostComing_6, p3, p4, if_neg hlt, if_neg hlt, if_neg hlt, if_neg hlt, s_X4_timesOf fu hfu (nI i) hx, s_X9_comings fu hfu (nI i) hm, e_cl, e_cl, e_cl, e_cl]
    simp only [L_X8_unlikeCards_26, L_X9_unlikeMany_26, L_X8_commonestCard_35, L_X9_mostComing_32, L_X9_mostComing_45, e_let, show nI i + (1 : Int32) = nI (i + 1) from n_add i 1]
    constructor
    · by_cases h0 : nI (l_cnt l (nI i)) ≤ 0
      · rw [if_pos h0, if_pos h0, show c + (0 : Int32) = c from Int32.add_zero c]
        exact (ih (i + 1) fn c 0 (by omega) (by omega)).1
      · rw [if_neg h0, if_neg h0]
        exact (ih (i + 1) fn (c + 1) 0 (by omega) (by omega)).1
    · intro hb
      by_cases h0 : nI (l_cnt l (nI i)) ≤ c
      · simp only [if_pos h0]
        exact (ih (i + 1) fn c b (by omega) (by omega)).2 hb
      · simp only [if_neg h0]
        exact (ih (i + 1) fn _ (nI i) (by omega) (by omega)).2 (Or.inr ⟨i, rfl, by omega⟩)
theorem l_cnt_m1 {l : List Int32} (h : ∀ v, v ∈ l → ∃ a : Nat, 1 ≤ a ∧ a ≤ 52 ∧ v = nI a) : l_cnt l (-1) = 0 := by
  unfold l_cnt
  rw [List.length_eq_zero_iff, List.filter_eq_nil_iff]
  intro v hv
  obtain ⟨a, a1, a2, rfl⟩ := h v hv
  simp only [decide_eq_true_eq]
  intro hc
  have h1 : ¬ nI a < 0 := nI_pos (by omega)
  rw [hc] at h1
  exact h1 (by decide)
theorem o_truth (fu : Nat) (hfu : 1000 ≤ fu) (a : Int32) : sameI (f_X8_truth fu a) (f_X9_truth fu a) := by
  intro X M h
  obtain ⟨P, l, p1, p2, p3, p4, p5, p6, p7, p8⟩ := h.1
  have h60 := p5.2.1
  have hm : m_row M l := ⟨p6, h60, p7⟩
  obtain ⟨⟨u, u1, u2⟩, k⟩ := s_unlike_loop fu hfu p2 p3 p4 p5 hm P 1 fu 0 (-1) (by omega) (by omega)
  obtain ⟨r, hr, r1, r2⟩ := k (Or.inl rfl)
  have U1 : f_X8_unlikeCards fu X = some (u, X) := u1
  have U2 : f_X9_unlikeMany fu M = some (u, M) := u2
  have K1 : f_X8_commonestCard fu X = some (r, X) := r1
  have K2 : f_X9_mostComing fu M = some (r, M) := r2
  have hc1 : l_cnt l (-1) = 0 := l_cnt_m1 (fun v hv => by obtain ⟨b, b1, b2, b3⟩ := p8 v hv; exact ⟨b, b1, by omega, b3⟩)
  have T1 := s_X4_timesOf fu hfu r p5
  have red : f_X9_truth fu a M = L_X9_truth_19 fu a r (nI (l_cnt l r)) M := by
    rw [f_X9_truth, K2, e_cl]
    by_cases c : r = -1
    · rw [if_pos c]
      subst c
      rw [hc1]; rfl
    · rw [if_neg c, s_X9_comings fu hfu r hm, e_cl]
  obtain ⟨S1, S2⟩ := s_X4_sum fu hfu p5
  have G0 := s_X9_sumOf fu hfu hm 0
  have G1 := s_X9_sumOf fu hfu hm 1
  simp only [if_true, show ¬ (1 : Int32) = 0 by decide, if_false] at G0 G1
  have hcl := l_cnt_le l r
  rw [red, f_X8_truth, L_X9_truth_19, U1, U2, K1, e_cl, e_cl, e_cl, e_cl, e_cl, e_cl, T1, e_cl, e_cl, S1, S2, e_cl, e_cl, s_X4_earliestTwice fu hfu p5, e_cl, s_X9_firstAgain fu hfu hm, e_cl, G0, G1, e_cl, e_cl, e_cl, p3, p4, p5.1, p6, show (2 : Int32) = nI 2 from rfl, n_mul, n_mul, Nat.mul_comm 2]
  (repeat' split) <;> first | exact ⟨_, _, _, rfl, rfl, h⟩ | contradiction | omega
def l_sq : Nat → Nat
  | 0 => 0
  | n + 1 => l_sq n + (n + 1) * (n + 1)
theorem l_sq_eq : ∀ P, P < 53 → l_sq P = P * (P + 1) * (2 * P + 1) / 6 ∧ P * (P + 1) * (2 * P + 1) < 2 ^ 31 := by decide +kernel
theorem s_two_in (fu : Nat) {X M : ow_S} {P : Nat} (hP : P ≤ 52) (p3 : X.1 0 11 = nI P) (p4 : M.1 56 0 = nI P) (a s t : Int32) : ∀ (q i fn : Nat), i + q = P + 1 → q < fn → ∃ r, L_X8_two_60 fu fn a s t (nI i) X = some (r, X) ∧ L_X9_two_58 fu fn a t s (nI i) M = some (r, M) := by
  intro q
  induction q with
  | zero =>
    intro i fn hi hf
    obtain ⟨fn, rfl⟩ : ∃ q, fn = q + 1 := ⟨fn - 1, by omega⟩
    have hlt : nI P < nI i := by rw [n_lt (by omega) (by omega)]; omega
    rw [L_X8_two_60, L_X9_two_58, p3, p4, if_pos hlt, if_pos hlt]
    by_cases c : a = 0
    · rw [if_pos c, if_pos c]; exact ⟨_, rfl, rfl⟩
    · rw [if_neg c, if_neg c]; exact ⟨_, rfl, rfl⟩
  | succ q ih =>
    intro i fn hi hf
    obtain ⟨fn, rfl⟩ : ∃ q, fn = q + 1 := ⟨fn - 1, by omega⟩
    have hlt : ¬ nI P < nI i := by rw [n_lt (by omega) (by omega)]; omega
    obtain ⟨r, r1, r2⟩ := ih (i + 1) fn (by omega) (by omega)
    rw [L_X8_two_60, L_X9_two_58, p3, p4, if_neg hlt, if_neg hlt, e_let, e_let]
    simp only [L_X8_two_124, L_X9_two_122, e_let, show nI i + (1 : Int32) = nI (i + 1) from n_add i 1, r1, r2]
    by_cases c1 : s - nI i ≤ nI i
    · rw [if_pos c1, if_pos c1]; exact ⟨_, rfl, rfl⟩
    rw [if_neg c1, if_neg c1]
    by_cases c2 : nI P < s - nI i
    · rw [if_pos c2, if_pos c2]; exact ⟨_, rfl, rfl⟩
    rw [if_neg c2, if_neg c2]
    by_cases c3 : nI i * nI i + (s - nI i) * (s - nI i) = t
    · rw [if_pos c3, if_pos c3]
      by_cases c : a = 0
      · rw [if_pos c, if_pos c]; exact ⟨_, rfl, rfl⟩
      · rw [if_neg c, if_neg c]; exact ⟨_, rfl, rfl⟩
    · rw [if_neg c3, if_neg c3]; exact ⟨_, rfl, rfl⟩
theorem s_two_sq (fu : Nat) (hfu : 1000 ≤ fu) {M : ow_S} {P : Nat} {l : List Int32} (hP : P ≤ 52) (p4 : M.1 56 0 = nI P) (hm : m_row M l) (a : Int32) : ∀ (q i fn : Nat), i + q = P → q < fn → L_X9_two_16 fu fn a (nI (l_sq i)) (nI (i + 1)) M = L_X9_two_58 fu fu a (nI (l_sq P) - l_sumA (fun x => x * x) 0 l) ((nI P * (nI P + (1 : Int32))) / (2 : Int32) - l_sumA (fun x => x) 0 l) 1 M := by
  have G0 := s_X9_sumOf fu hfu hm 0
  have G1 := s_X9_sumOf fu hfu hm 1
  simp only [if_true, show ¬ (1 : Int32) = 0 by decide, if_false] at G0 G1
  intro q
  induction q with
  | zero =>
    intro i fn hi hf
    obtain ⟨fn, rfl⟩ : ∃ q, fn = q + 1 := ⟨fn - 1, by omega⟩
    obtain rfl : i = P := by omega
    rw [L_X9_two_16, p4, if_pos (by rw [n_lt (by omega) (by omega)]; omega), f_X9_packSum, e_cl, G0, e_cl, e_let, G1, e_cl, e_let, p4]
  | succ q ih =>
    intro i fn hi hf
    obtain ⟨fn, rfl⟩ : ∃ q, fn = q + 1 := ⟨fn - 1, by omega⟩
    rw [L_X9_two_16, p4, if_neg (by rw [n_lt (by omega) (by omega)]; omega), n_mul, n_add, e_let, show nI (i + 1) + (1 : Int32) = nI (i + 1 + 1) from n_add _ 1, e_let]
    exact ih (i + 1) fn (by omega) (by omega)
theorem o_two (fu : Nat) (hfu : 1000 ≤ fu) (a : Int32) : sameI (f_X8_two fu a) (f_X9_two fu a) := by
  intro X M h
  obtain ⟨P, l, p1, p2, p3, p4, p5, p6, p7, p8⟩ := h.1
  have h60 := p5.2.1
  rw [f_X8_two, f_X9_two, s_in, e_cl]
  by_cases c0 : a < 0
  · rw [if_pos c0, if_pos c0, if_pos rfl]; exact ⟨_, _, _, rfl, rfl, h⟩
  rw [if_neg c0, if_neg c0]
  obtain ⟨j, hj, rfl⟩ := n_of c0
  have e1 : nI j ≤ (1 : Int32) ↔ j ≤ 1 := n_le (b := 1) hj (by decide)
  have e2 : (1 : Int32) < nI j ↔ 1 < j := n_lt (a := 1) (by decide) hj
  simp only [e1, e2]
  by_cases c : j ≤ 1
  · obtain ⟨S1, S2⟩ := s_X4_sum fu hfu p5
    obtain ⟨q1, q2⟩ := l_sq_eq P (by omega)
    have hsq : ((nI P * (nI P + (1 : Int32))) * (((2 : Int32) * nI P) + (1 : Int32))) / (6 : Int32) = nI (l_sq P) := by
      rw [show (1 : Int32) = nI 1 from rfl, show (2 : Int32) = nI 2 from rfl, show (6 : Int32) = nI 6 from rfl, n_add, n_mul, n_mul, n_add, n_mul, n_div q2 (by decide) (by decide), q1]
    obtain ⟨r, r1, r2⟩ := s_two_in fu (X := X) (M := M) p2 p3 p4 (nI j) ((nI P * (nI P + (1 : Int32))) / (2 : Int32) - l_sumA (fun x => x) 0 l) (nI (l_sq P) - l_sumA (fun x => x * x) 0 l) P 1 fu (by omega) (by omega)
    have T := s_two_sq fu hfu p2 p4 ⟨p6, h60, p7⟩ (nI j) P 0 fu (by omega) (by omega)
    rw [if_pos c, if_neg (show ¬ 1 < j by omega), if_neg (by decide), f_X8_packSum, e_cl, S1, e_cl, e_let, S2, e_cl, e_let, p3, hsq]
    exact ⟨r, X, M, r1, by rw [show (0 : Int32) = nI (l_sq 0) from rfl, show (1 : Int32) = nI (0 + 1) from rfl, T]; exact r2, h⟩
  · rw [if_neg c, if_pos (show 1 < j by omega), if_pos rfl]; exact ⟨_, _, _, rfl, rfl, h⟩
