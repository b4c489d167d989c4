/-! taken -/
theorem s_kind (fu : Nat) (hfu : 1000 ≤ fu) {k a : Nat} (hk : k < 6) (ha : a < 6) (X M : ow_S) : ∃ r, f_X8_isOfKind fu (nI k) (nI a) X = some (r, X) ∧ f_X9_isUnder fu (nI k) (nI a) M = some (r, M) := by
  obtain ⟨f, rfl⟩ : ∃ f, fu = f + 7 := ⟨fu - 7, by omega⟩
  rcases (show k = 0 ∨ k = 1 ∨ k = 2 ∨ k = 3 ∨ k = 4 ∨ k = 5 by omega) with rfl | rfl | rfl | rfl | rfl | rfl <;> rcases (show a = 0 ∨ a = 1 ∨ a = 2 ∨ a = 3 ∨ a = 4 ∨ a = 5 by omega) with rfl | rfl | rfl | rfl | rfl | rfl <;> first | exact ⟨1, rfl, rfl⟩ | exact ⟨0, rfl, rfl⟩
theorem s_kind6 (fu : Nat) (hfu : 1000 ≤ fu) {k : Nat} (hk : k < 6) (X : ow_S) : f_X8_isOfKind fu (nI k) 6 X = some (0, X) := by
  obtain ⟨f, rfl⟩ : ∃ f, fu = f + 7 := ⟨fu - 7, by omega⟩
  rcases (show k = 0 ∨ k = 1 ∨ k = 2 ∨ k = 3 ∨ k = 4 ∨ k = 5 by omega) with rfl | rfl | rfl | rfl | rfl | rfl <;> rfl
theorem o_taken (fu : Nat) (hfu : 1000 ≤ fu) (a1 a2 : Int32) : sameI (f_X8_taken fu a1 a2) (f_X9_taken fu a1 a2) := by
  intro X M h
  have stop : ∀ v : Int32, ∃ r X' M', some (v, X) = some (r, X') ∧ some (v, M) = some (r, M') ∧ Rl X' M' := fun v => ⟨_, _, _, rfl, rfl, h⟩
  rw [f_X8_taken, f_X9_taken, s_in, e_cl]
  by_cases c0 : a2 < 0
  · rw [if_pos c0, if_pos c0, if_pos rfl]; exact stop _
  rw [if_neg c0, if_neg c0]
  obtain ⟨a, ha, rfl⟩ := n_of c0
  have e1 : nI a ≤ (6 : Int32) ↔ a ≤ 6 := n_le (b := 6) ha (by decide)
  have e2 : (6 : Int32) < nI a ↔ 6 < a := n_lt (a := 6) (by decide) ha
  have e3 : nI a = (6 : Int32) ↔ a = 6 := n_eq (b := 6) ha (by decide)
  have e4 : (6 : Int32) ≤ nI a ↔ 6 ≤ a := n_le (a := 6) (by decide) ha
  simp only [e1, e2, e3, e4]
  by_cases c1 : a ≤ 6
  · rw [if_pos c1, if_neg (show ¬ 6 < a by omega), if_neg (show ¬ (1 : Int32) = 0 by decide), s_in, e_cl]
    by_cases d0 : a1 < 0
    · rw [if_pos d0, if_pos d0, if_pos rfl]; exact stop _
    rw [if_neg d0, if_neg d0]
    obtain ⟨j, hj, rfl⟩ := n_of d0
    have k1 : nI j < (65 : Int32) ↔ j < 65 := n_lt (b := 65) hj (by decide)
    have k2 : (64 : Int32) < nI j ↔ 64 < j := n_lt (a := 64) (by decide) hj
    have k3 : (5 : Int32) ≤ nI j ↔ 5 ≤ j := n_le (a := 5) (by decide) hj
    have k4 : nI j < (5 : Int32) ↔ j < 5 := n_lt (b := 5) hj (by decide)
    simp only [k1, k2, k3, k4]
    by_cases d1 : j < 65
    · rw [if_pos d1, if_neg (show ¬ 64 < j by omega), if_neg (show ¬ (1 : Int32) = 0 by decide)]
      obtain ⟨P, l, p1, p2, p3, p4, p5, p6, p7, p8⟩ := h.1
      obtain ⟨hc, q1, q2, q3, q4⟩ := h.2.1
      have h60 := p5.2.1
      by_cases d5 : 5 ≤ j
      · have es : nI j - (5 : Int32) = nI (j - 5) := n_sub (b := 5) (by omega)
        have e5 : nI (j - 5) < nI l.length ↔ j - 5 < l.length := n_lt (by omega) (by omega)
        rw [if_pos d5, if_neg (show ¬ j < 5 by omega), e_let, es, s_X4_has fu 1 (j - 5) p5 (by omega), e_cl, p6]
        simp only [e5]
        by_cases c : j - 5 < l.length
        · rw [if_pos c, if_pos c, if_neg (show ¬ (1 : Int32) = 0 by decide)]
          by_cases c6 : a = 6
          · rw [if_pos c6, if_pos c6, e_ckn _ (by omega) (by omega), e_ckn _ (by omega) (by omega), n_cl (a := j - 5) (by omega)]
            refine ⟨_, _, _, rfl, ?_, h⟩
            rw [p7 _ c, show X.1 2 (j - 5) = l.getD (j - 5) 0 from p5.2.2 _ c]
          · rw [if_neg c6, if_neg c6]; exact stop _
        · rw [if_neg c, if_neg c, if_pos rfl]; exact stop _
      · have e5 : nI j < nI hc ↔ j < hc := n_lt (by omega) (by omega)
        have e6 : nI hc ≤ nI j ↔ hc ≤ j := n_le (by omega) (by omega)
        have hh : f_X8_isHead fu (nI j) X = some (if j < hc then 1 else 0, X) := by
          rw [f_X8_isHead, if_neg d0, q2]
          simp only [e6]
          by_cases c : hc ≤ j
          · rw [if_pos c, if_neg (by omega)]
          · rw [if_neg c, if_pos (by omega)]
        rw [if_neg d5, if_pos (show j < 5 by omega), hh, e_cl, q3]
        simp only [e5]
        by_cases c : j < hc
        · obtain ⟨k, mo, bb, f, s, ⟨x0, -, -, -, -, x5, -⟩, ⟨y0, -⟩, -⟩ := q4 j c
          rw [if_pos c, if_pos c, if_neg (show ¬ (1 : Int32) = 0 by decide), e_ckn _ (by omega) (by omega)]
          simp only [n_cl (a := j) (by omega)]
          rw [e_let, x0]
          by_cases c6 : 6 ≤ a
          · obtain rfl : a = 6 := by omega
            rw [if_pos c6, show nI 6 = (6 : Int32) from rfl, s_kind6 fu hfu x5, e_cl, if_pos rfl]; exact stop _
          · obtain ⟨r, r1, r2⟩ := s_kind fu hfu (k := k) (a := a) x5 (by omega) X M
            rw [if_neg c6, e_ckn _ (by omega) (by omega), y0, r1, r2, e_cl, e_cl]
            by_cases cr : r = 0
            · rw [if_pos cr, if_pos cr]; exact stop _
            · rw [if_neg cr, if_neg cr]; exact stop _
        · rw [if_neg c, if_neg c, if_pos rfl]; exact stop _
    · rw [if_neg d1, if_pos (show 64 < j by omega), if_pos rfl]; exact stop _
  · rw [if_neg c1, if_pos (show 6 < a by omega), if_pos rfl]; exact stop _
