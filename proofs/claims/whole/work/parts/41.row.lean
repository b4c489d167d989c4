/-! the row's calls -/
theorem s_isCard (fu : Nat) {X M : ow_S} (h : rlA X.1 M.1) (a : Int32) : ∃ P : Nat, P ≤ 52 ∧ X.1 0 11 = nI P ∧ ∃ b : Bool, f_X8_isCard fu a X = some (if b = true then 1 else 0, X) ∧ f_X9_isCard fu a M = some (if b = true then 1 else 0, M) ∧ (b = true → ∃ j, 1 ≤ j ∧ j ≤ P ∧ a = nI j) := by
  obtain ⟨P, l, p1, p2, p3, p4, -⟩ := h
  refine ⟨P, p2, p3, ?_⟩
  rw [f_X8_isCard, f_X9_isCard, s_in, e_cl, p3, p4]
  by_cases c0 : a < 1
  · rw [if_pos c0, if_pos c0]; exact ⟨false, rfl, rfl, fun h => absurd h (by decide)⟩
  · rw [if_neg c0, if_neg c0]
    by_cases c1 : nI P < a
    · rw [if_pos c1, if_pos c1]; exact ⟨false, rfl, rfl, fun h => absurd h (by decide)⟩
    · rw [if_neg c1, if_neg c1]
      refine ⟨true, rfl, rfl, fun _ => ?_⟩
      have h0 : ¬ a < 0 := fun h => c0 (Int32.lt_trans h (by decide))
      obtain ⟨j, hj, rfl⟩ := n_rng (by omega) h0 c1
      exact ⟨j, by rw [show (1 : Int32) = nI 1 from rfl, n_lt (by omega) (by decide)] at c0; omega, hj, rfl⟩
theorem o_card (fu : Nat) (a : Int32) : sameI (f_X8_card fu a) (f_X9_card fu a) := by
  intro X M h
  obtain ⟨P', hP', hP1, b, e1, e2, hb⟩ := s_isCard fu h.1 a
  rw [f_X8_card, f_X9_card, e1, e2, e_cl, e_cl]
  cases b with
  | false => exact ⟨_, _, _, rfl, rfl, h⟩
  | true =>
    obtain ⟨j, j1, j2, rfl⟩ := hb rfl
    obtain ⟨P, l, p1, p2, p3, p4, p5, p6, p7, p8⟩ := h.1
    have h60 := p5.2.1
    have hPP : P' = P := by rw [p3] at hP1; exact ((n_eq (by omega) (by omega)).mp hP1).symm
    subst hPP
    rw [if_neg (by decide), if_neg (by decide), p6]
    by_cases c : l.length < 60
    · obtain ⟨X1, a1, a2, a3⟩ := s_X4_add fu (r := 1) p5 c (nI j)
      rw [a1, e_cl, if_neg (by decide), if_neg (by rw [show (60 : Int32) = nI 60 from rfl, n_eq (by omega) (by decide)]; omega), e_ckn _ (by omega) c, n_cl (a := l.length) (by omega), e_let, g_k _ _ (show 56 ≠ 57 by decide), p6, show (1 : Int32) = nI 1 from rfl, n_add, e_let, g_same]
      have hlen : (l ++ [nI j]).length = l.length + 1 := by simp
      refine ⟨nI (l.length + 1), X1, _, by rw [a2.1, hlen], rfl, h.row (fun c c0 c1 c2 => a3.1 c c1 c2) (fun z _ => by rw [a3.1 0 (by decide) (by decide)]) (fun c c1 c2 c3 => by rw [g_k _ _ c2, g_k _ _ c3]) (fun z z1 z2 z3 => by rw [g_j _ _ z2, g_k _ _ (show 56 ≠ 57 by decide)]) ⟨P', l ++ [nI j], p1, p2, by rw [a3.1 0 (by decide) (by decide)]; exact p3, ?_, a2, by rw [g_same, hlen], ?_, ?_⟩⟩
      · rw [g_j _ _ (show 0 ≠ 2 by decide), g_k _ _ (show 56 ≠ 57 by decide)]; exact p4
      · intro p hp
        rw [hlen] at hp
        rw [g_k _ _ (show 57 ≠ 56 by decide), g_row]
        by_cases e : p = l.length
        · subst e; simp [upd]
        · rw [List.getD_eq_getElem?_getD, List.getElem?_append_left (by omega), ← List.getD_eq_getElem?_getD, ← p7 p (by omega)]; simp [upd, e]
      · intro v hv
        rw [List.mem_append, List.mem_singleton] at hv
        rcases hv with hv | rfl
        · exact p8 v hv
        · exact ⟨j, j1, j2, rfl⟩
    · rw [s_X4_addF fu p5 c, e_cl, if_pos rfl, if_pos (by rw [show (60 : Int32) = nI 60 from rfl, n_eq (by omega) (by decide)]; omega)]
      exact ⟨_, _, _, rfl, rfl, h⟩
theorem n_last {m j : Nat} (hm : m < 2 ^ 31) (hj : j < 2 ^ 31) : nI m - (1 : Int32) < nI j ↔ m ≤ j := by
  by_cases hz : m = 0
  · subst hz
    have : nI 0 - (1 : Int32) < nI j := Int32.lt_of_lt_of_le (show nI 0 - (1 : Int32) < 0 by decide) (by rw [show (0 : Int32) = nI 0 from rfl, n_le (by decide) hj]; omega)
    exact ⟨fun _ => Nat.zero_le _, fun _ => this⟩
  · rw [show nI m - (1 : Int32) = nI (m - 1) from n_sub (b := 1) (by omega), n_lt (by omega) hj]; omega
theorem o_at (fu : Nat) (a : Int32) : sameI (f_X8_at fu a) (f_X9_at fu a) := by
  intro X M h
  obtain ⟨P, l, p1, p2, p3, p4, p5, p6, p7, p8⟩ := h.1
  have h60 := p5.2.1
  rw [f_X8_at, f_X9_at, s_in, e_cl, p6]
  by_cases c0 : a < 0
  · rw [if_pos c0, if_pos rfl, f_X4_has, if_pos c0, e_cl, if_pos rfl]; exact ⟨_, _, _, rfl, rfl, h⟩
  · rw [if_neg c0]
    obtain ⟨j, hj, rfl⟩ := n_of c0
    rw [s_X4_has fu 1 j p5 hj, e_cl]
    simp only [n_last (m := l.length) (j := j) (by omega) hj]
    by_cases c1 : j < l.length
    · rw [if_pos c1, if_neg (by decide), e_ckn _ hj (by omega), if_neg (show ¬ l.length ≤ j by omega), if_neg (by decide), e_ckn _ hj (by omega), n_cl hj]
      refine ⟨_, _, _, rfl, ?_, h⟩
      rw [p7 j c1, show X.1 2 j = l.getD j 0 from p5.2.2 j c1]
    · rw [if_neg c1, if_pos rfl, if_pos (show l.length ≤ j by omega), if_pos rfl]
      exact ⟨_, _, _, rfl, rfl, h⟩
/-- the words laid become the row -/
theorem s_copyback {l : List Int32} : ∀ (q i : Nat) (M : ow_S), m_ws M l → M.1 56 2 = nI l.length → l.length ≤ 60 → (∀ p, p < i → M.1 57 p = l.getD p 0) → i + q = l.length → ∃ M', (∀ (fu fn : Nat), q < fn → L_X9_fill_41 fu fn (nI i) M = some (nI l.length, M') ∧ L_X9_turn_23 fu fn (nI i) M = some (if l.length = 0 then -1 else M'.1 57 0, M')) ∧ (∀ c, c ≠ 57 → M'.1 c = M.1 c) ∧ ∀ p, p < l.length → M'.1 57 p = l.getD p 0 := by
  intro q
  induction q with
  | zero =>
    intro i M hw h2 h60 hp hi
    refine ⟨M, fun fu fn hf => ?_, fun _ _ => rfl, fun p hp' => hp p (by omega)⟩
    obtain ⟨fn, rfl⟩ : ∃ q, fn = q + 1 := ⟨fn - 1, by omega⟩
    rw [L_X9_fill_41, L_X9_turn_23, hw.1, h2, if_pos (by rw [n_le (by omega) (by omega)]; omega), if_pos (by rw [n_le (by omega) (by omega)]; omega)]
    refine ⟨rfl, ?_⟩
    have e : nI l.length = 0 ↔ l.length = 0 := n_eq (b := 0) (by omega) (by decide)
    simp only [e]
    by_cases c : l.length = 0
    · rw [if_pos c, if_pos c]
    · rw [if_neg c, if_neg c]
  | succ q ih =>
    intro i M hw h2 h60 hp hi
    obtain ⟨M', a, b, c⟩ := ih (i + 1) (ow_sI M 57 i (l.getD i 0)) ⟨by rw [g_k _ _ (show 56 ≠ 57 by decide)]; exact hw.1, fun p hp' => by rw [g_k _ _ (show 74 ≠ 57 by decide)]; exact hw.2 p hp'⟩ (by rw [g_k _ _ (show 56 ≠ 57 by decide)]; exact h2) h60 (fun p hp' => by
      rw [g_row]
      by_cases e : p = i
      · subst e; simp [upd]
      · simp only [upd, if_neg e]; exact hp p (by omega)) (by omega)
    refine ⟨M', fun fu fn hf => ?_, fun k hk => (b k hk).trans (g_k _ _ hk), c⟩
    obtain ⟨fn, rfl⟩ : ∃ q, fn = q + 1 := ⟨fn - 1, by omega⟩
    rw [L_X9_fill_41, L_X9_turn_23, hw.1, h2, if_neg (by rw [n_le (by omega) (by omega)]; omega), if_neg (by rw [n_le (by omega) (by omega)]; omega), e_ckn _ (by omega) (by omega), e_ckn _ (by omega) (by omega), e_ckn _ (by omega) (by omega), e_ckn _ (by omega) (by omega), n_cl (a := i) (by omega), hw.2 i (by omega), e_let, e_let, e_let, e_let, show (1 : Int32) = nI 1 from rfl, n_add]
    exact a fu fn (by omega)
theorem l_but_in {P : Nat} {but way : Int32} {v : Int32} (h : v ∈ l_but P but way) (hP : P ≤ 52) : ∃ a, 1 ≤ a ∧ a ≤ P ∧ v = nI a := by
  unfold l_but l_all at h
  rw [List.mem_filter, List.mem_map] at h
  obtain ⟨⟨i, hi, rfl⟩, -⟩ := h
  rw [List.mem_range] at hi
  split
  · exact ⟨i + 1, by omega, by omega, rfl⟩
  · exact ⟨P - i, by omega, by omega, rfl⟩
theorem o_fill (fu : Nat) (hfu : 1000 ≤ fu) (a way : Int32) : sameI (f_X8_fill fu a way) (f_X9_fill fu a way) := by
  intro X M h
  obtain ⟨P', hP', hP1, b, e1, e2, hb⟩ := s_isCard fu h.1 a
  have core : ∃ r X' M', L_X8_fill_13 fu a way X = some (r, X') ∧ L_X9_fill_13 fu a way M = some (r, M') ∧ Rl X' M' := by
    obtain ⟨P, l, p1, p2, p3, p4, p5, p6, p7, p8⟩ := h.1
    have hw : f_X8_isWay fu way X = some (if way < 0 then 0 else if 1 < way then 0 else 1, X) := by
      rw [f_X8_isWay, L_X8_isWay_9]
      by_cases c0 : way < 0
      · rw [if_pos c0, if_neg (fun h => by rw [h] at c0; exact absurd c0 (by decide)), if_neg (fun h => by rw [h] at c0; exact absurd c0 (by decide))]
      · rw [if_neg c0]
        obtain ⟨j, hj, rfl⟩ := n_of c0
        have e0 : nI j = (0 : Int32) ↔ j = 0 := n_eq (b := 0) hj (by decide)
        have e1 : nI j = (1 : Int32) ↔ j = 1 := n_eq (b := 1) hj (by decide)
        have e2 : (1 : Int32) < nI j ↔ 1 < j := n_lt (a := 1) (by decide) hj
        simp only [e0, e1, e2]
        rcases (show j = 0 ∨ j = 1 ∨ 1 < j by omega) with c | c | c
        · rw [if_pos c, if_neg (by omega)]
        · rw [if_neg (by omega), if_pos c, if_neg (by omega)]
        · rw [if_neg (by omega), if_neg (by omega), if_pos c]
    rw [L_X8_fill_13, L_X9_fill_13, hw, s_in, e_cl, e_cl]
    by_cases cw : (if way < 0 then (0 : Int32) else if 1 < way then 0 else 1) = 0
    · rw [if_pos cw, if_pos cw]; exact ⟨_, _, _, rfl, rfl, h⟩
    · rw [if_neg cw, if_neg cw, p3]
      obtain ⟨X1, a1, a2, a3⟩ := s_X4_becomeAllBut fu hfu (r := 1) p2 a way X
      obtain ⟨M1, m1, m2, m3⟩ := s_X9_laysBut fu hfu p2 a way p4
      have hlen := l_but_len P a way
      rw [a1, e_cv, m1, e_cv, m2.1, e_let]
      obtain ⟨M2, c1, c2, c3⟩ := s_copyback (l := l_but P a way) (l_but P a way).length 0 (ow_sI M1 56 2 (nI (l_but P a way).length)) ⟨by rw [g_j _ _ (show 36 ≠ 2 by decide)]; exact m2.1, fun p hp => by rw [g_k _ _ (show 74 ≠ 56 by decide)]; exact m2.2 p hp⟩ (g_same _ _ _ _) (by omega) (fun p hp => absurd hp (by omega)) (by omega)
      rw [show (0 : Int32) = nI 0 from rfl, (c1 fu fu (by omega)).1]
      refine ⟨_, _, _, by rw [a2.1], rfl, h.row (fun c c0 c1 c2 => a3.1 c c1 c2) (fun z _ => by rw [a3.1 0 (by decide) (by decide)]) (fun c h1 h2 h3 => ?_) (fun z z1 z2 z3 => ?_) ⟨P, _, p1, p2, by rw [a3.1 0 (by decide) (by decide)]; exact p3, ?_, a2, ?_, c3, fun v hv => l_but_in hv p2⟩⟩
      · rw [c2 c h3, g_k _ _ h2]; exact funext fun z => m3.1 c z (by omega) (by omega)
      · rw [c2 56 (by decide), g_j _ _ z2]; exact m3.1 56 z (by omega) (by omega)
      · rw [c2 56 (by decide), g_j _ _ (show 0 ≠ 2 by decide), m3.1 56 0 (by omega) (by omega)]; exact p4
      · rw [c2 56 (by decide), g_same]
  rw [f_X8_fill, f_X9_fill]
  by_cases ca : a = -1
  · rw [if_pos ca, if_pos ca]; exact core
  · rw [if_neg ca, if_neg ca, e1, e2, e_cl, e_cl]
    cases b with
    | false => exact ⟨_, _, _, rfl, rfl, h⟩
    | true => exact core
theorem l_turn_len (how : Nat) (l : List Int32) : (l_turn how l).length = l.length := by simp [l_turn]
theorem l_getD_mem {l : List Int32} {p : Nat} (h : p < l.length) : l.getD p 0 ∈ l := by
  rw [List.getD_eq_getElem?_getD, List.getElem?_eq_getElem h]; exact List.getElem_mem h
theorem l_turn_in {how : Nat} {l : List Int32} {v : Int32} (h : v ∈ l_turn how l) : v ∈ l := by
  unfold l_turn at h
  rw [List.mem_map] at h
  obtain ⟨p, hp, rfl⟩ := h
  rw [List.mem_range] at hp
  (repeat' split) <;> exact l_getD_mem (by omega)
theorem o_turn (fu : Nat) (hfu : 1000 ≤ fu) (a : Int32) : sameI (f_X8_turn fu a) (f_X9_turn fu a) := by
  intro X M h
  obtain ⟨P, l, p1, p2, p3, p4, p5, p6, p7, p8⟩ := h.1
  have h60 := p5.2.1
  rw [f_X8_turn, f_X9_turn, s_in, e_cl]
  by_cases c0 : a < 0
  · rw [if_pos c0, if_pos c0, if_pos rfl]; exact ⟨_, _, _, rfl, rfl, h⟩
  · rw [if_neg c0, if_neg c0]
    obtain ⟨j, hj, rfl⟩ := n_of c0
    have e1 : nI j ≤ (2 : Int32) ↔ j ≤ 2 := n_le (b := 2) hj (by decide)
    have e2 : (2 : Int32) < nI j ↔ 2 < j := n_lt (a := 2) (by decide) hj
    simp only [e1, e2]
    by_cases c : j ≤ 2
    · rw [if_pos c, if_neg (show ¬ 2 < j by omega), if_neg (by decide)]
      obtain ⟨X1, a1, a2, a3⟩ := s_X4_beTurned fu hfu (r := 1) (how := j) (by omega) p5
      obtain ⟨M1, m1, m2, m3⟩ := s_X9_laysRow fu hfu (l := l) (σ := M) ⟨p6, h60, p7⟩
      obtain ⟨M2, n1, n2, n3⟩ := s_X9_turnsOver fu hfu (how := j) (by omega) m2 h60
      have hlen := l_turn_len j l
      have w := m3.tr n3
      obtain ⟨M3, c1, c2, c3⟩ := s_copyback (l := l_turn j l) (l_turn j l).length 0 M2 n2 (by rw [w.1 56 2 (by decide) (by decide), p6, hlen]) (by omega) (fun p hp => absurd hp (by omega)) (by omega)
      rw [a1, e_cv, m1, e_cv, n1, e_cv, show (0 : Int32) = nI 0 from rfl, (c1 fu fu (by omega)).2, a2.1, hlen]
      have hR : Rl X1 M3 := by
        refine h.row (fun c c0 c1 c2 => a3.1 c c1 c2) (fun z _ => by rw [a3.1 0 (by decide) (by decide)]) (fun c h1 h2 h3 => ?_) (fun z z1 z2 z3 => ?_) ⟨P, l_turn j l, p1, p2, by rw [a3.1 0 (by decide) (by decide)]; exact p3, ?_, a2, ?_, c3, fun v hv => p8 v (l_turn_in hv)⟩
        · rw [c2 c h3]; exact funext fun z => w.1 c z (by omega) (by omega)
        · rw [c2 56 (by decide)]; exact w.1 56 z (by omega) (by omega)
        · rw [c2 56 (by decide), w.1 56 0 (by omega) (by omega)]; exact p4
        · rw [c2 56 (by decide), w.1 56 2 (by omega) (by omega), hlen]; exact p6
      have e3 : nI l.length ≤ nI 0 ↔ l.length = 0 := (n_le (by omega) (by decide)).trans (by omega)
      simp only [e3]
      by_cases cz : l.length = 0
      · rw [if_pos cz, if_pos cz]; exact ⟨_, _, _, rfl, rfl, hR⟩
      · rw [if_neg cz, if_neg cz]
        refine ⟨_, _, _, rfl, ?_, hR⟩
        rw [c3 0 (by omega), show X1.1 2 0 = (l_turn j l).getD 0 0 from a2.2.2 0 (by omega)]
    · rw [if_neg c, if_pos (show 2 < j by omega), if_pos rfl]; exact ⟨_, _, _, rfl, rfl, h⟩
