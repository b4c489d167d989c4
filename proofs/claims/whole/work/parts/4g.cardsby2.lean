theorem o_cardsBy (fu : Nat) (hfu : 1000 ≤ fu) (a1 a2 a3 a4 : Int32) : sameI (f_X8_cardsBy fu a1 a2 a3 a4) (f_X9_cardsBy fu a1 a2 a3 a4) := by
  intro X M h
  have stop : ∀ v : Int32, ∃ r X' M', some (v, X) = some (r, X') ∧ some (v, M) = some (r, M') ∧ Rl X' M' := fun v => ⟨_, _, _, rfl, rfl, h⟩
  rw [f_X8_cardsBy, f_X9_cardsBy, s_isSheet, s_inb, e_cl, e_cl]
  rcases inb_cases (v := a1) (a := 0) (b := 3) (by decide) (by decide) with i1 | ⟨i1, s, s1, s2, rfl⟩
  · rw [show inb a1 0 3 = 0 from i1, if_pos rfl, if_pos rfl]; exact stop _
  rw [show inb (nI s) 0 3 = 1 from i1, if_neg (show ¬ (1 : Int32) = 0 by decide), if_neg (show ¬ (1 : Int32) = 0 by decide), s_inb, e_cl]
  by_cases c1 : a2 < 0
  · rw [if_pos c1, show inb a2 0 2 = 0 by unfold inb; rw [if_pos c1], if_pos rfl]; exact stop _
  rw [if_neg c1]
  by_cases c2 : (2 : Int32) < a2
  · rw [if_pos c2, show inb a2 0 2 = 0 by unfold inb; rw [if_neg c1, if_pos c2], if_pos rfl]; exact stop _
  rw [if_neg c2, show inb a2 0 2 = 1 by unfold inb; rw [if_neg c1, if_neg c2], if_neg (show ¬ (1 : Int32) = 0 by decide), s_inb, e_cl]
  by_cases c4 : a4 < 0
  · rw [if_pos c4, show inb a4 0 40 = 0 by unfold inb; rw [if_pos c4], if_pos rfl]; exact stop _
  rw [if_neg c4]
  obtain ⟨n, hn, rfl⟩ := n_of c4
  have e1 : nI n ≤ (40 : Int32) ↔ n ≤ 40 := n_le (b := 40) hn (by decide)
  have e2 : (40 : Int32) < nI n ↔ 40 < n := n_lt (a := 40) (by decide) hn
  have e3 : inb (nI n) 0 40 = if 40 < n then 0 else 1 := by unfold inb; rw [if_neg c4]; simp only [e2]
  rw [e3]
  simp only [e1]
  by_cases c5 : n ≤ 40
  · obtain ⟨so, sz, w1, w2, w3, w4, w5, w6, w7⟩ := h.2.2.2.2.2.1 s (by omega)
    obtain ⟨k1, -, -⟩ := n_sort w1
    have cl : (nI s).toNatClampNeg = s := n_cl (by omega)
    have ck : ∀ K : Option (Int32 × ow_S), ow_ck (ow_bd (nI s) 4) K = K := fun K => e_ckn K (by omega) (by omega)
    rw [if_pos c5, if_neg (show ¬ 40 < n by omega), if_neg (show ¬ (1 : Int32) = 0 by decide)]
    simp only [cl, ck, e_let, f_X5_isMissing, w3, w4, k1]
    by_cases c0 : so = 0
    · rw [if_pos c0, if_pos c0, e_cl, if_neg (show ¬ (1 : Int32) = 0 by decide)]; exact stop _
    rw [if_neg c0, if_neg c0, e_cl, if_pos rfl]
    simp only [w3]
    by_cases c6 : nI so - 1 = a2
    · rw [if_pos c6, if_pos c6]
      exact s_cardsBy_loop fu hfu (by omega) c5 a3 n 0 fu 0 X M h (Or.inl rfl) (by omega) (by omega)
    · rw [if_neg c6, if_neg c6]; exact stop _
  · rw [if_neg c5, if_pos (show 40 < n by omega), if_pos rfl]; exact stop _
