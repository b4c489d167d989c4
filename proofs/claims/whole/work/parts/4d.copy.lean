/-! copy -/
theorem s_m_copy (fu : Nat) {x6 x7 n : Nat} (h6 : x6 + n ≤ 160) (h7 : x7 + n ≤ 160) (hn : n ≤ 40) (f : Nat → Int32) : ∀ (q i fn : Nat) (M : ow_S), i + q = n → q < fn → (∀ z, M.1 68 z = if x7 ≤ x6 then (if x7 ≤ z ∧ z < x7 + i then f (z - x7 + x6) else f z) else (if x7 + (n - i) ≤ z ∧ z < x7 + n then f (z - x7 + x6) else f z)) → ∃ M', L_X9_copy_147 fu fn (nI n) (nI x6) (nI x7) (nI i) M = some (nI n, M') ∧ (∀ c, c ≠ 68 → M'.1 c = M.1 c) ∧ ∀ z, M'.1 68 z = if x7 ≤ z ∧ z < x7 + n then f (z - x7 + x6) else f z := by
  intro q
  induction q with
  | zero =>
    intro i fn M hi hf hM
    obtain ⟨fn, rfl⟩ : ∃ q, fn = q + 1 := ⟨fn - 1, by omega⟩
    refine ⟨M, ?_, fun _ _ => rfl, fun z => ?_⟩
    · rw [L_X9_copy_147, if_pos (by rw [n_le (by omega) (by omega)]; omega)]
    · rw [hM z]
      (repeat' split) <;> first | rfl | omega
  | succ q ih =>
    intro i fn M hi hf hM
    obtain ⟨fn, rfl⟩ : ∃ q, fn = q + 1 := ⟨fn - 1, by omega⟩
    have e : nI x7 ≤ nI x6 ↔ x7 ≤ x6 := n_le (by omega) (by omega)
    rw [L_X9_copy_147, if_neg (by rw [n_le (by omega) (by omega)]; omega)]
    simp only [e, L_X9_copy_173, e_let, show nI i + (1 : Int32) = nI (i + 1) from n_add i 1, show nI n - (1 : Int32) = nI (n - 1) from n_sub (b := 1) (by omega), show nI (n - 1) - nI i = nI (n - 1 - i) from n_sub (by omega), n_add]
    by_cases c : x7 ≤ x6
    · rw [if_pos c, e_ckn _ (by omega) (by omega), e_ckn _ (by omega) (by omega), n_cl (a := x7 + i) (by omega), n_cl (a := x6 + i) (by omega)]
      obtain ⟨M', a, b, d⟩ := ih (i + 1) fn (ow_sI M 68 (x7 + i) (M.1 68 (x6 + i))) (by omega) (by omega) (fun z => by
        rw [g_if, if_pos rfl, hM (x6 + i), hM z]
        simp only [if_pos c]
        by_cases ez : z = x7 + i
        · subst ez
          rw [if_pos rfl, if_neg (show ¬(x7 ≤ x6 + i ∧ x6 + i < x7 + i) by omega), if_pos (by omega)]; congr 1; omega
        · rw [if_neg ez]
          (repeat' split) <;> first | rfl | omega)
      exact ⟨M', a, fun k hk => by rw [b k hk, g_k _ _ hk], d⟩
    · rw [if_neg c, e_ckn _ (by omega) (by omega), e_ckn _ (by omega) (by omega), n_cl (a := x7 + (n - 1 - i)) (by omega), n_cl (a := x6 + (n - 1 - i)) (by omega)]
      obtain ⟨M', a, b, d⟩ := ih (i + 1) fn (ow_sI M 68 (x7 + (n - 1 - i)) (M.1 68 (x6 + (n - 1 - i)))) (by omega) (by omega) (fun z => by
        rw [g_if, if_pos rfl, hM (x6 + (n - 1 - i)), hM z]
        simp only [if_neg c]
        by_cases ez : z = x7 + (n - 1 - i)
        · subst ez
          rw [if_pos rfl, if_neg (show ¬(x7 + (n - i) ≤ x6 + (n - 1 - i) ∧ x6 + (n - 1 - i) < x7 + n) by omega), if_pos (by omega)]; congr 1; omega
        · rw [if_neg ez]
          (repeat' split) <;> first | rfl | omega)
      exact ⟨M', a, fun k hk => by rw [b k hk, g_k _ _ hk], d⟩
