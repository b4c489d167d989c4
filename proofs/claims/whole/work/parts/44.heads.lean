/-! heads: told, head, set, say -/
theorem s_isHead (fu : Nat) {X M : ow_S} (h : rlH X.1 M.1) (a : Int32) : ∃ hc : Nat, hc ≤ 5 ∧ X.1 0 12 = nI hc ∧ M.1 56 3 = nI hc ∧ (∀ h, h < hc → rlh X.1 M.1 h) ∧ ∃ b : Bool, f_X8_isHead fu a X = some (if b = true then 1 else 0, X) ∧ f_X9_isHead fu a M = some (if b = true then 1 else 0, M) ∧ (b = true → ∃ j, j < hc ∧ a = nI j) := by
  obtain ⟨hc, q1, q2, q3, q4⟩ := h
  refine ⟨hc, q1, q2, q3, q4, ?_⟩
  rw [f_X8_isHead, f_X9_isHead, s_in, e_cl, q2, q3]
  by_cases c0 : a < 0
  · rw [if_pos c0, if_pos c0]; exact ⟨false, rfl, rfl, fun h => absurd h (by decide)⟩
  · rw [if_neg c0, if_neg c0]
    obtain ⟨j, hj, rfl⟩ := n_of c0
    have e1 : nI hc ≤ nI j ↔ hc ≤ j := n_le (by omega) hj
    simp only [e1, n_last (m := hc) (j := j) (by omega) hj]
    by_cases c1 : hc ≤ j
    · rw [if_pos c1, if_pos c1]; exact ⟨false, rfl, rfl, fun h => absurd h (by decide)⟩
    · rw [if_neg c1, if_neg c1]; exact ⟨true, rfl, rfl, fun _ => ⟨j, by omega, rfl⟩⟩
theorem o_say (fu : Nat) (hfu : 1000 ≤ fu) (a : Int32) : sameI (f_X8_say fu a) (f_X9_say fu a) := by
  intro X M h
  obtain ⟨hc, q1, q2, q3, q4, b, e1, e2, hb⟩ := s_isHead fu h.2.1 a
  rw [f_X8_say, f_X9_say, e1, e2, e_cl, e_cl]
  cases b with
  | false => exact ⟨_, _, _, rfl, rfl, h⟩
  | true =>
    obtain ⟨j, hj, rfl⟩ := hb rfl
    obtain ⟨k, mo, bb, f, s, hx, hm, -⟩ := q4 j hj
    obtain ⟨P, l, p1, p2, p3, p4, p5, p6, p7, p8⟩ := h.1
    obtain ⟨tc, law, r1, r2, r3, r4, r5, r6, r7⟩ := h.2.2.1
    obtain ⟨T, t1, t2⟩ := r7 law r2
    have h60 := p5.2.1
    rw [if_pos rfl, if_neg (show ¬ (1 : Int32) = 0 by decide), if_neg (show ¬ (1 : Int32) = 0 by decide), e_ckn _ (by omega) (by omega), n_cl (a := j) (by omega), e_let]
    have hlaw : f_X8_lawText fu X = some (30 + 3 * law, X) := by
      rw [f_X8_lawText, r5, if_neg (nI_pos (by omega)), if_neg (by rw [show (6 : Int32) = nI 6 from rfl, n_le (by decide) (by omega)]; omega), e_ckn _ (by omega) (by omega), n_cl (a := law) (by omega), e_let]
    obtain ⟨X1, a1, a2⟩ := s_X7_says fu hfu (t := 30 + 3 * law) (c := 25 + j) (r := 1) (by omega) (Or.inl (by omega)) (Or.inr (by omega)) t1 hx p5 (X.1 0 11)
    obtain ⟨M1, m1, m2, m3⟩ := s_X9_laysRow fu hfu (l := l) (σ := M) ⟨p6, h60, p7⟩
    have hT : m_text M1.1 law T := t2.pt (fun z _ _ => m3.1 63 z (by omega) (by omega)) (fun z _ _ => m3.1 62 z (by omega) (by omega))
    have hH : m_head M1.1 j k mo (nI bb) (nI f) (nI s) := by
      unfold m_head at hm ⊢
      rw [m3.1 58 _ (by omega) (by omega), m3.1 59 _ (by omega) (by omega), m3.1 60 _ (by omega) (by omega), m3.1 60 _ (by omega) (by omega), m3.1 60 _ (by omega) (by omega)]; exact hm
    obtain ⟨M2, n1, n2⟩ := s_X9_saysOf fu hfu (ru := law) (h := j) (by omega) (by omega) ((m3.1 56 12 (by omega) (by omega)).trans r6) hT hH ⟨m2.1, h60, m2.2⟩
    rw [f_X8_saysOf, hlaw, e_cl, a1, e_cl, e_cl, m1, e_cv, n1, e_cl, m3.1 56 0 (by omega) (by omega), p3, p4]
    refine ⟨_, _, _, rfl, rfl, h.sc ⟨fun c hc => a2 c (by omega) (by omega), by rw [a2 7 (by omega) (by omega)]⟩ ⟨fun c hc => ?_, fun z hz => ?_⟩⟩
    · rw [n2.1 c (by omega) (by omega) (by omega)]; exact funext fun z => m3.1 c z (by omega) (by omega)
    · rw [n2.2 z (by omega) (by omega)]; exact m3.1 56 z (by omega) (by omega)
theorem o_told (fu : Nat) (a1 a2 : Int32) : sameI (f_X8_told fu a1 a2) (f_X9_told fu a1 a2) := by
  intro X M h
  obtain ⟨hc, q1, q2, q3, q4, b, e1, e2, hb⟩ := s_isHead fu h.2.1 a1
  rw [f_X8_told, f_X9_told, e1, e2, e_cl, e_cl]
  cases b with
  | false => exact ⟨_, _, _, rfl, rfl, h⟩
  | true =>
    obtain ⟨j, hj, rfl⟩ := hb rfl
    obtain ⟨k, mo, bb, f, s, ⟨x0, x1, x2, x3, x4, -⟩, ⟨y0, y1, y2, y3, y4, -⟩, -⟩ := q4 j hj
    rw [if_pos rfl, if_neg (show ¬ (1 : Int32) = 0 by decide), if_neg (show ¬ (1 : Int32) = 0 by decide), e_ckn _ (by omega) (by omega), e_ckn _ (by omega) (by omega), e_ckn _ (by omega) (by omega)]
    simp only [n_cl (a := j) (by omega)]
    rw [e_let, s_in, e_cl, x0, x1, x2, x3, x4, y0, y1]
    by_cases c0 : a2 < 0
    · have n : ∀ v : Nat, v < 2 ^ 31 → a2 ≠ nI v := fun v hv hh => by rw [hh] at c0; exact nI_pos hv c0
      rw [if_neg (show ¬ a2 = 0 from n 0 (by decide)), if_neg (show ¬ a2 = 1 from n 1 (by decide)), if_neg (show ¬ a2 = 2 from n 2 (by decide)), if_neg (show ¬ a2 = 3 from n 3 (by decide)), if_neg (show ¬ a2 = 4 from n 4 (by decide)), if_neg (show ¬ a2 = 0 from n 0 (by decide)), if_neg (show ¬ a2 = 1 from n 1 (by decide)), if_pos (Int32.lt_trans c0 (by decide)), if_pos rfl]
      exact ⟨_, _, _, rfl, rfl, h⟩
    · obtain ⟨v, hv, rfl⟩ := n_of c0
      have k0 : nI v = (0 : Int32) ↔ v = 0 := n_eq (b := 0) hv (by decide)
      have k1 : nI v = (1 : Int32) ↔ v = 1 := n_eq (b := 1) hv (by decide)
      have k2 : nI v = (2 : Int32) ↔ v = 2 := n_eq (b := 2) hv (by decide)
      have k3 : nI v = (3 : Int32) ↔ v = 3 := n_eq (b := 3) hv (by decide)
      have k4 : nI v = (4 : Int32) ↔ v = 4 := n_eq (b := 4) hv (by decide)
      have k5 : nI v < (2 : Int32) ↔ v < 2 := n_lt (b := 2) hv (by decide)
      have k6 : (4 : Int32) < nI v ↔ 4 < v := n_lt (a := 4) (by decide) hv
      simp only [k0, k1, k2, k3, k4, k5, k6]
      by_cases c : v < 5
      · rcases (show v = 0 ∨ v = 1 ∨ v = 2 ∨ v = 3 ∨ v = 4 by omega) with rfl | rfl | rfl | rfl | rfl
        · exact ⟨_, _, _, rfl, rfl, h⟩
        · exact ⟨_, _, _, rfl, rfl, h⟩
        · refine ⟨nI bb, X, M, rfl, ?_, h⟩
          rw [if_neg (by decide), if_neg (by decide), if_neg (by decide), show (3 : Int32) = nI 3 from rfl, n_mul, n_add, show (2 : Int32) = nI 2 from rfl, n_sub (by omega), e_ckn _ (by omega) (by omega), n_cl (a := 3 * j + 2 - 2) (by omega), show 3 * j + 2 - 2 = 3 * j by omega, y2]
        · refine ⟨nI f, X, M, rfl, ?_, h⟩
          rw [if_neg (by decide), if_neg (by decide), if_neg (by decide), show (3 : Int32) = nI 3 from rfl, n_mul, n_add, show (2 : Int32) = nI 2 from rfl, n_sub (by omega), e_ckn _ (by omega) (by omega), n_cl (a := 3 * j + 3 - 2) (by omega), show 3 * j + 3 - 2 = 3 * j + 1 by omega, y3]
        · refine ⟨nI s, X, M, rfl, ?_, h⟩
          rw [if_neg (by decide), if_neg (by decide), if_neg (by decide), show (3 : Int32) = nI 3 from rfl, n_mul, n_add, show (2 : Int32) = nI 2 from rfl, n_sub (by omega), e_ckn _ (by omega) (by omega), n_cl (a := 3 * j + 4 - 2) (by omega), show 3 * j + 4 - 2 = 3 * j + 2 by omega, y4]
      · rw [if_neg (show ¬ v = 0 by omega), if_neg (show ¬ v = 1 by omega), if_neg (show ¬ v = 2 by omega), if_neg (show ¬ v = 3 by omega), if_neg (show ¬ v = 4 by omega), if_neg (show ¬ v = 0 by omega), if_neg (show ¬ v = 1 by omega), if_neg (show ¬ v < 2 by omega), if_pos (show 4 < v by omega), if_pos rfl]
        exact ⟨_, _, _, rfl, rfl, h⟩
